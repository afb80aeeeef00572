abbrev rm_X8_move : Room := { frames := 3, cells := 0, slots := 0, locals := 71 }
theorem hd_X8_move : yX8_move.cls = RX8 ∧ yX8_move.cls ≠ "java/lang/invoke/MethodHandle" ∧ yX8_move.cls ≠ "java/lang/invoke/VarHandle" ∧ (parseMethodDescriptor yX8_move.desc).map (fun d => d.parameters.length) = some 3 := by decide +kernel
def f_X8_move (x1 : Int32) (x2 : Int32) (x3 : Int32) (V : cr_Hp) : Option (Int32 × cr_Hp) :=
  cr_bd (f_X8_isMarble x1 V) (fun (r2 : Int32) => if r2 = 0 then (some ((-1001 : Int32), V)) else (cr_bd (f_X8_isPoint x2 x3) (fun (r10 : Int32) => if r10 = 0 then (some ((-1001 : Int32), V)) else (cr_bd (f_X8_isThere x1 V) (fun (r22 : Int32) => if r22 = 0 then (some ((-1003 : Int32), V)) else (cr_bd (f_X8_marbleAt x2 x3 V) (fun (r31 : Int32) => if r31 = (-1006 : Int32) then (cr_bd (f_X8_record  V) (fun (V45 : cr_Hp) => cr_bd (f_X8_setPart x1 (0 : Int32) x2 V45) (fun (V52 : cr_Hp) => cr_bd (f_X8_setPart x1 (1 : Int32) x3 V52) (fun (V59 : cr_Hp) => cr_bd (f_X8_ringsOf x2 x3 V59) (fun (r65 : Int32) => cr_bd (f_X8_ones r65) (fun (r68 : Int32) => some (r68, V59))))))) else (some ((-1003 : Int32), V)))))))))
set_option maxRecDepth 100000 in
set_option maxHeartbeats 4000000 in
theorem t_X8_move {p : Program} {l : Launch} {e : Env} {s : State} {m : MethodId} {args : Array Value} {below : List Frame} {meth : Method} {c : Code} {w : cr_Wd} (X : cr_Cx w RX8 (Cond.code yX8_move cX8_move 4 (some .int)) cX8_move 4 p s m args meth c) (x1 : Int32) (x2 : Int32) (x3 : Int32) (V : cr_Hp)  (hr0 : meth.sig.returnType = (some .int)) (x : Int32 × cr_Hp) (h : f_X8_move x1 x2 x3 V = some x) : cr_J w 4 p l e rm_X8_move s m args below meth c 0 0 (MQ below (cr_Qi w x.2 x.1) args s 0 0 (cr_A w)) V 0 [(0, .ref (w.1 159)), (1, .int x1), (2, .int x2), (3, .int x3)] [] := by
  unfold f_X8_move at h
  refine jr_aload_n X.c dX8_move_0 rfl 0 rfl ?_
  refine jr_iload_n X.c dX8_move_1 rfl 1 rfl ?_
  obtain ⟨r2, hr2, h⟩ := cr_bd_s h
  refine jc_Vi X.c (As := [.int x1]) (V1 := V) (C := RX8) (T := TX8) (N := 22) (ci := 8) 1 (m_X8_isMarble l w V x1  r2 hr2) ⟨rfl, rfl⟩ ml_X8_95 im_X8_isMarble sl_X8_isMarble in_X8 cd_X8_isMarble hd_X8_isMarble ⟨Nat.le_of_ble_eq_true rfl, Nat.le_of_ble_eq_true rfl⟩ ⟨Nat.le_of_ble_eq_true rfl, Nat.le_of_ble_eq_true rfl⟩ rfl (Nat.le_of_ble_eq_true rfl) (by decide) ((cr_row_159 w) _) rfl rfl dX8_move_2 ?_
  refine jr_if_eq X.c 16 dX8_move_5 (by decide) (fun q5 => ?_) (fun q5 => ?_)
  · replace h := cr_if_t q5 h
    refine jr_sipush X.c (v := (-1001 : Int32)) dX8_move_16 (by decide) ?_
    cases h
    exact jr_iret X.c hr0 dX8_move_19
  · replace h := cr_if_f q5 h
    refine jr_iload_n X.c dX8_move_8 rfl 2 rfl ?_
    refine jr_iload_n X.c dX8_move_9 rfl 3 rfl ?_
    obtain ⟨r10, hr10, h⟩ := cr_bd_s h
    refine jc_Si X.c (As := [.int x2, .int x3]) (V1 := V) 2 (m_X8_isPoint l w V x2 x3  r10 hr10) ⟨rfl, rfl⟩ ml_X8_112 st_X8_isPoint in_X8 cd_X8_isPoint hd_X8_isPoint ⟨Nat.le_of_ble_eq_true rfl, Nat.le_of_ble_eq_true rfl⟩ ⟨Nat.le_of_ble_eq_true rfl, Nat.le_of_ble_eq_true rfl⟩ rfl (Nat.le_of_ble_eq_true rfl) rfl dX8_move_10 ?_
    refine jr_if_ne X.c 20 dX8_move_13 (by decide) (fun q13 => ?_) (fun q13 => ?_)
    · replace h := cr_if_f q13 h
      refine jr_aload_n X.c dX8_move_20 rfl 0 rfl ?_
      refine jr_iload_n X.c dX8_move_21 rfl 1 rfl ?_
      obtain ⟨r22, hr22, h⟩ := cr_bd_s h
      refine jc_Vi X.c (As := [.int x1]) (V1 := V) (C := RX8) (T := TX8) (N := 22) (ci := 8) 1 (m_X8_isThere l w V x1  r22 hr22) ⟨rfl, rfl⟩ ml_X8_56 im_X8_isThere sl_X8_isThere in_X8 cd_X8_isThere hd_X8_isThere ⟨Nat.le_of_ble_eq_true rfl, Nat.le_of_ble_eq_true rfl⟩ ⟨Nat.le_of_ble_eq_true rfl, Nat.le_of_ble_eq_true rfl⟩ rfl (Nat.le_of_ble_eq_true rfl) (by decide) ((cr_row_159 w) _) rfl rfl dX8_move_22 ?_
      refine jr_if_eq X.c 40 dX8_move_25 (by decide) (fun q25 => ?_) (fun q25 => ?_)
      · replace h := cr_if_t q25 h
        refine jr_sipush X.c (v := (-1003 : Int32)) dX8_move_40 (by decide) ?_
        cases h
        exact jr_iret X.c hr0 dX8_move_43
      · replace h := cr_if_f q25 h
        refine jr_aload_n X.c dX8_move_28 rfl 0 rfl ?_
        refine jr_iload_n X.c dX8_move_29 rfl 2 rfl ?_
        refine jr_iload_n X.c dX8_move_30 rfl 3 rfl ?_
        obtain ⟨r31, hr31, h⟩ := cr_bd_s h
        refine jc_Vi X.c (As := [.int x2, .int x3]) (V1 := V) (C := RX8) (T := TX8) (N := 22) (ci := 8) 2 (m_X8_marbleAt l w V x2 x3  r31 hr31) ⟨rfl, rfl⟩ ml_X8_63 im_X8_marbleAt sl_X8_marbleAt in_X8 cd_X8_marbleAt hd_X8_marbleAt ⟨Nat.le_of_ble_eq_true rfl, Nat.le_of_ble_eq_true rfl⟩ ⟨Nat.le_of_ble_eq_true rfl, Nat.le_of_ble_eq_true rfl⟩ rfl (Nat.le_of_ble_eq_true rfl) (by decide) ((cr_row_159 w) _) rfl rfl dX8_move_31 ?_
        refine jr_sipush X.c (v := (-1006 : Int32)) dX8_move_34 (by decide) ?_
        refine jr_icmp_eq X.c 44 dX8_move_37 (by decide) (fun q37 => ?_) (fun q37 => ?_)
        · replace h := cr_if_t q37 h
          refine jr_aload_n X.c dX8_move_44 rfl 0 rfl ?_
          obtain ⟨V45, hr45, h⟩ := cr_bd_s h
          refine jc_Vv X.c (As := []) (V1 := V45) (C := RX8) (T := TX8) (N := 22) (ci := 8) 0 (m_X8_record l w V   V45 hr45) ⟨rfl, rfl⟩ ml_X8_102 im_X8_record sl_X8_record in_X8 cd_X8_record hd_X8_record ⟨Nat.le_of_ble_eq_true rfl, Nat.le_of_ble_eq_true rfl⟩ ⟨Nat.le_of_ble_eq_true rfl, Nat.le_of_ble_eq_true rfl⟩ rfl (Nat.le_of_ble_eq_true rfl) (by decide) ((cr_row_159 w) _) rfl rfl dX8_move_45 ?_
          refine jr_aload_n X.c dX8_move_48 rfl 0 rfl ?_
          refine jr_iload_n X.c dX8_move_49 rfl 1 rfl ?_
          refine jr_iconst X.c (v := (0 : Int32)) dX8_move_50 (by decide) ?_
          refine jr_iload_n X.c dX8_move_51 rfl 2 rfl ?_
          obtain ⟨V52, hr52, h⟩ := cr_bd_s h
          refine jc_Vv X.c (As := [.int x1, .int (0 : Int32), .int x2]) (V1 := V52) (C := RX8) (T := TX8) (N := 22) (ci := 8) 3 (m_X8_setPart l w V45 x1 (0 : Int32) x2  V52 hr52) ⟨rfl, rfl⟩ ml_X8_73 im_X8_setPart sl_X8_setPart in_X8 cd_X8_setPart hd_X8_setPart ⟨Nat.le_of_ble_eq_true rfl, Nat.le_of_ble_eq_true rfl⟩ ⟨Nat.le_of_ble_eq_true rfl, Nat.le_of_ble_eq_true rfl⟩ rfl (Nat.le_of_ble_eq_true rfl) (by decide) ((cr_row_159 w) _) rfl rfl dX8_move_52 ?_
          refine jr_aload_n X.c dX8_move_55 rfl 0 rfl ?_
          refine jr_iload_n X.c dX8_move_56 rfl 1 rfl ?_
          refine jr_iconst X.c (v := (1 : Int32)) dX8_move_57 (by decide) ?_
          refine jr_iload_n X.c dX8_move_58 rfl 3 rfl ?_
          obtain ⟨V59, hr59, h⟩ := cr_bd_s h
          refine jc_Vv X.c (As := [.int x1, .int (1 : Int32), .int x3]) (V1 := V59) (C := RX8) (T := TX8) (N := 22) (ci := 8) 3 (m_X8_setPart l w V52 x1 (1 : Int32) x3  V59 hr59) ⟨rfl, rfl⟩ ml_X8_73 im_X8_setPart sl_X8_setPart in_X8 cd_X8_setPart hd_X8_setPart ⟨Nat.le_of_ble_eq_true rfl, Nat.le_of_ble_eq_true rfl⟩ ⟨Nat.le_of_ble_eq_true rfl, Nat.le_of_ble_eq_true rfl⟩ rfl (Nat.le_of_ble_eq_true rfl) (by decide) ((cr_row_159 w) _) rfl rfl dX8_move_59 ?_
          refine jr_aload_n X.c dX8_move_62 rfl 0 rfl ?_
          refine jr_iload_n X.c dX8_move_63 rfl 2 rfl ?_
          refine jr_iload_n X.c dX8_move_64 rfl 3 rfl ?_
          obtain ⟨r65, hr65, h⟩ := cr_bd_s h
          refine jc_Vi X.c (As := [.int x2, .int x3]) (V1 := V59) (C := RX8) (T := TX8) (N := 22) (ci := 8) 2 (m_X8_ringsOf l w V59 x2 x3  r65 hr65) ⟨rfl, rfl⟩ ml_X8_53 im_X8_ringsOf sl_X8_ringsOf in_X8 cd_X8_ringsOf hd_X8_ringsOf ⟨Nat.le_of_ble_eq_true rfl, Nat.le_of_ble_eq_true rfl⟩ ⟨Nat.le_of_ble_eq_true rfl, Nat.le_of_ble_eq_true rfl⟩ rfl (Nat.le_of_ble_eq_true rfl) (by decide) ((cr_row_159 w) _) rfl rfl dX8_move_65 ?_
          obtain ⟨r68, hr68, h⟩ := cr_bd_s h
          refine jc_Si X.c (As := [.int r65]) (V1 := V59) 1 (m_X8_ones l w V59 r65  r68 hr68) ⟨rfl, rfl⟩ ml_X8_70 st_X8_ones in_X8 cd_X8_ones hd_X8_ones ⟨Nat.le_of_ble_eq_true rfl, Nat.le_of_ble_eq_true rfl⟩ ⟨Nat.le_of_ble_eq_true rfl, Nat.le_of_ble_eq_true rfl⟩ rfl (Nat.le_of_ble_eq_true rfl) rfl dX8_move_68 ?_
          cases h
          exact jr_iret X.c hr0 dX8_move_71
        · replace h := cr_if_f q37 h
          refine jr_sipush X.c (v := (-1003 : Int32)) dX8_move_40 (by decide) ?_
          cases h
          exact jr_iret X.c hr0 dX8_move_43
    · replace h := cr_if_t q13 h
      refine jr_sipush X.c (v := (-1001 : Int32)) dX8_move_16 (by decide) ?_
      cases h
      exact jr_iret X.c hr0 dX8_move_19
set_option maxRecDepth 100000 in
set_option maxHeartbeats 4000000 in
theorem m_X8_move (l : Launch) (w : cr_Wd) (V : cr_Hp) (x1 : Int32) (x2 : Int32) (x3 : Int32)  (x : Int32 × cr_Hp) (h : f_X8_move x1 x2 x3 V = some x) : Met l yX8_move (cr_wds yX8_move cX8_move 4 (some .int)) rm_X8_move (cr_Pc w V [.ref (w.1 159), .int x1, .int x2, .int x3]) (cr_Qi w x.2 x.1) 0 0 (cr_A w) := by
  refine cr_met (own := RX8) (lv := [(0, .ref (w.1 159)), (1, .int x1), (2, .int x2), (3, .int x3)]) (by decide +kernel) rfl (Nat.le_of_ble_eq_true rfl) rfl (fun p e s m args below meth c X hr0 => ?_)
  exact t_X8_move X x1 x2 x3 V  hr0 x h
abbrev rm_X8_clear : Room := { frames := 2, cells := 0, slots := 0, locals := 45 }
theorem hd_X8_clear : yX8_clear.cls = RX8 ∧ yX8_clear.cls ≠ "java/lang/invoke/MethodHandle" ∧ yX8_clear.cls ≠ "java/lang/invoke/VarHandle" ∧ (parseMethodDescriptor yX8_clear.desc).map (fun d => d.parameters.length) = some 0 := by decide +kernel
def f_X8_clear_l13 (n10 : Int32) (x2_13 : Int32) (V_l13 : cr_Hp) : Option ((Int32 × cr_Hp) ⊕ cr_Hp) :=
  if (80 : Int32) ≤ x2_13 then (some (.inr V_l13)) else (cr_gd (cr_ix x2_13 80) (cr_lt (cr_pt V_l13 160 x2_13.toNatClampNeg (0 : Int32)) (fun (V25 : cr_Hp) => some (.inl ((x2_13 + (1 : Int32)), V25)))))
set_option maxRecDepth 100000 in
set_option maxHeartbeats 4000000 in
theorem t_X8_clear_l13 {p : Program} {l : Launch} {e : Env} {s : State} {m : MethodId} {args : Array Value} {below : List Frame} {meth : Method} {c : Code} {w : cr_Wd} {Q : State → Prop} (X : cr_Cx w RX8 (Cond.code yX8_clear cX8_clear 3 (some .int)) cX8_clear 3 p s m args meth c) (n10 : Int32) (x2_13 : Int32) (V_l13 : cr_Hp)  (x : (Int32 × cr_Hp) ⊕ cr_Hp) (h : f_X8_clear_l13 n10 x2_13 V_l13 = some x) (kl : ∀ (x2_13 : Int32) (V_l13 : cr_Hp), x = .inl (x2_13, V_l13) → cr_J w 3 p l e rm_X8_clear s m args below meth c 0 0 Q V_l13 13 [(0, .ref (w.1 159)), (1, .int n10), (2, .int x2_13)] []) (kr32 : ∀ (V_e13_32 : cr_Hp), x = .inr V_e13_32 → cr_J w 3 p l e rm_X8_clear s m args below meth c 0 0 Q V_e13_32 32 [(1, .int n10)] []) : cr_J w 3 p l e rm_X8_clear s m args below meth c 0 0 Q V_l13 13 [(0, .ref (w.1 159)), (1, .int n10), (2, .int x2_13)] [] := by
  unfold f_X8_clear_l13 at h
  refine jr_iload_n X.c dX8_clear_13 rfl 2 rfl ?_
  refine jr_bipush X.c (v := (80 : Int32)) dX8_clear_14 (by decide) ?_
  refine jr_icmp_ge X.c 32 dX8_clear_16 (by decide) (fun q16 => ?_) (fun q16 => ?_)
  · replace h := cr_if_t q16 h
    cases h
    refine jr_sub [1] rfl ?_
    exact kr32 V_l13 rfl
  · replace h := cr_if_f q16 h
    refine jr_aload_n X.c dX8_clear_19 rfl 0 rfl ?_
    refine jr_get X.c (ci := 8) (C := RX8) (T := TX8) (N := 22) (k := 0) rfl cr_in8 (by decide) ((cr_row_159 w) _) rfl (by decide) fl_X8_7 dX8_clear_20 ?_
    refine jr_iload_n X.c dX8_clear_23 rfl 2 rfl ?_
    refine jr_iconst X.c (v := (0 : Int32)) dX8_clear_24 (by decide) ?_
    obtain ⟨hi25, h⟩ := cr_gd_s h
    obtain ⟨V25, eV25, h⟩ := cr_lt_s h
    refine jr_iast X.c (by decide) (cr_row_160 w) hi25 dX8_clear_25 eV25 ?_
    refine jr_iinc X.c (v := (x2_13 + (1 : Int32))) (lv2 := [(2, .int (x2_13 + (1 : Int32))), (0, .ref (w.1 159)), (1, .int n10)]) dX8_clear_26 2 rfl (by rfl) (by decide) rfl ?_
    refine jr_goto X.c 13 dX8_clear_29 (by decide) ?_
    cases h
    refine jr_sub [1, 2, 0] rfl ?_
    exact kl (x2_13 + (1 : Int32)) V25 rfl
def f_X8_clear  (V : cr_Hp) : Option (Int32 × cr_Hp) :=
  cr_bd (f_X8_record  V) (fun (V1 : cr_Hp) => cr_gd (cr_ix (0 : Int32) 80) (cr_lt ((V1 160 (0 : Int32).toNatClampNeg)) (fun (n10 : Int32) => cr_bd (cr_it (fun (q : Int32 × cr_Hp) => f_X8_clear_l13 n10 q.1 q.2) cr_FU ((0 : Int32), V1)) (fun (V_e13_32 : cr_Hp) => some (n10, V_e13_32)))))
set_option maxRecDepth 100000 in
set_option maxHeartbeats 4000000 in
theorem t_X8_clear {p : Program} {l : Launch} {e : Env} {s : State} {m : MethodId} {args : Array Value} {below : List Frame} {meth : Method} {c : Code} {w : cr_Wd} (X : cr_Cx w RX8 (Cond.code yX8_clear cX8_clear 3 (some .int)) cX8_clear 3 p s m args meth c)  (V : cr_Hp)  (hr0 : meth.sig.returnType = (some .int)) (x : Int32 × cr_Hp) (h : f_X8_clear  V = some x) : cr_J w 3 p l e rm_X8_clear s m args below meth c 0 0 (MQ below (cr_Qi w x.2 x.1) args s 0 0 (cr_A w)) V 0 [(0, .ref (w.1 159))] [] := by
  unfold f_X8_clear at h
  refine jr_aload_n X.c dX8_clear_0 rfl 0 rfl ?_
  obtain ⟨V1, hr1, h⟩ := cr_bd_s h
  refine jc_Vv X.c (As := []) (V1 := V1) (C := RX8) (T := TX8) (N := 22) (ci := 8) 0 (m_X8_record l w V   V1 hr1) ⟨rfl, rfl⟩ ml_X8_102 im_X8_record sl_X8_record in_X8 cd_X8_record hd_X8_record ⟨Nat.le_of_ble_eq_true rfl, Nat.le_of_ble_eq_true rfl⟩ ⟨Nat.le_of_ble_eq_true rfl, Nat.le_of_ble_eq_true rfl⟩ rfl (Nat.le_of_ble_eq_true rfl) (by decide) ((cr_row_159 w) _) rfl rfl dX8_clear_1 ?_
  refine jr_aload_n X.c dX8_clear_4 rfl 0 rfl ?_
  refine jr_get X.c (ci := 8) (C := RX8) (T := TX8) (N := 22) (k := 0) rfl cr_in8 (by decide) ((cr_row_159 w) _) rfl (by decide) fl_X8_7 dX8_clear_5 ?_
  refine jr_iconst X.c (v := (0 : Int32)) dX8_clear_8 (by decide) ?_
  obtain ⟨hi9, h⟩ := cr_gd_s h
  refine jr_iald X.c (by decide) ((cr_row_160 w) _) hi9 dX8_clear_9 ?_
  obtain ⟨n10, en10, h⟩ := cr_lt_s h
  refine jr_top en10 ?_
  refine jr_istore_n X.c (lv2 := [(1, .int n10), (0, .ref (w.1 159))]) dX8_clear_10 rfl (by decide) rfl ?_
  refine jr_iconst X.c (v := (0 : Int32)) dX8_clear_11 (by decide) ?_
  refine jr_istore_n X.c (lv2 := [(2, .int (0 : Int32)), (1, .int n10), (0, .ref (w.1 159))]) dX8_clear_12 rfl (by decide) rfl ?_
  obtain ⟨e13, he13, h⟩ := cr_bd_s h
  have kx32 : ∀ (V_e13_32 : cr_Hp), e13 = V_e13_32 → cr_J w 3 p l e rm_X8_clear s m args below meth c 0 0 (MQ below (cr_Qi w x.2 x.1) args s 0 0 (cr_A w)) V_e13_32 32 [(1, .int n10)] [] := by
    intro V_e13_32 qx
    rw [qx] at h
    try simp only [cr_sm, cr_u2, cr_u3, cr_u4, cr_u5, cr_u6] at h
    refine jr_iload_n X.c dX8_clear_32 rfl 0 rfl ?_
    cases h
    exact jr_iret X.c hr0 dX8_clear_33
  refine jr_sub [2, 1, 0] rfl ?_
  refine cr_it_W (f := (fun (q : Int32 × cr_Hp) => f_X8_clear_l13 n10 q.1 q.2)) (P := fun (q : Int32 × cr_Hp) => cr_J w 3 p l e rm_X8_clear s m args below meth c 0 0 (MQ below (cr_Qi w x.2 x.1) args s 0 0 (cr_A w)) q.2 13 [(0, .ref (w.1 159)), (1, .int n10), (2, .int q.1)] []) (K := fun z => z = e13) (fun q x hx kl kr => ?_) cr_FU ((0 : Int32), V1) e13 he13 rfl
  obtain ⟨x2_13, V_l13⟩ := q
  exact t_X8_clear_l13 X n10 x2_13 V_l13  x hx (fun x2_13 V_l13 ez => kl _ ez) (fun V_e13_32 ez => kx32 V_e13_32 ((kr _ ez).symm))
set_option maxRecDepth 100000 in
set_option maxHeartbeats 4000000 in
theorem m_X8_clear (l : Launch) (w : cr_Wd) (V : cr_Hp)   (x : Int32 × cr_Hp) (h : f_X8_clear  V = some x) : Met l yX8_clear (cr_wds yX8_clear cX8_clear 3 (some .int)) rm_X8_clear (cr_Pc w V [.ref (w.1 159)]) (cr_Qi w x.2 x.1) 0 0 (cr_A w) := by
  refine cr_met (own := RX8) (lv := [(0, .ref (w.1 159))]) (by decide +kernel) rfl (Nat.le_of_ble_eq_true rfl) rfl (fun p e s m args below meth c X hr0 => ?_)
  exact t_X8_clear X  V  hr0 x h
abbrev rm_X8_isFlick : Room := { frames := 1, cells := 0, slots := 0, locals := 22 }
theorem hd_X8_isFlick : yX8_isFlick.cls ≠ "java/lang/invoke/MethodHandle" ∧ yX8_isFlick.cls ≠ "java/lang/invoke/VarHandle" ∧ (parseMethodDescriptor yX8_isFlick.desc).map (fun d => d.parameters.length) = some 2 := by decide +kernel
def f_X8_isFlick (x0 : Int32) (x1 : Int32) : Option (Int32) :=
  cr_bd (f_X8_within x0 (0 : Int32) (7 : Int32)) (fun (r4 : Int32) => if r4 = 0 then (some (0 : Int32)) else (cr_bd (f_X8_within x1 (1 : Int32) (40 : Int32)) (fun (r14 : Int32) => if r14 = 0 then (some (0 : Int32)) else (some (1 : Int32)))))
set_option maxRecDepth 100000 in
set_option maxHeartbeats 4000000 in
theorem t_X8_isFlick {p : Program} {l : Launch} {e : Env} {s : State} {m : MethodId} {args : Array Value} {below : List Frame} {meth : Method} {c : Code} {w : cr_Wd} (X : cr_Cx w RX8 (Cond.code yX8_isFlick cX8_isFlick 2 (some .boolean)) cX8_isFlick 2 p s m args meth c) (x0 : Int32) (x1 : Int32) (V : cr_Hp)  (hr0 : meth.sig.returnType = (some .boolean)) (x : Int32) (h : f_X8_isFlick x0 x1 = some x) : cr_J w 2 p l e rm_X8_isFlick s m args below meth c 0 0 (MQ below (cr_Qi w V x) args s 0 0 (cr_A w)) V 0 [(0, .int x0), (1, .int x1)] [] := by
  unfold f_X8_isFlick at h
  refine jr_iload_n X.c dX8_isFlick_0 rfl 0 rfl ?_
  refine jr_iconst X.c (v := (0 : Int32)) dX8_isFlick_1 (by decide) ?_
  refine jr_bipush X.c (v := (7 : Int32)) dX8_isFlick_2 (by decide) ?_
  obtain ⟨r4, hr4, h⟩ := cr_bd_s h
  refine jc_Si X.c (As := [.int x0, .int (0 : Int32), .int (7 : Int32)]) (V1 := V) 3 (m_X8_within l w V x0 (0 : Int32) (7 : Int32)  r4 hr4) ⟨rfl, rfl⟩ ml_X8_39 st_X8_within in_X8 cd_X8_within hd_X8_within ⟨Nat.le_of_ble_eq_true rfl, Nat.le_of_ble_eq_true rfl⟩ ⟨Nat.le_of_ble_eq_true rfl, Nat.le_of_ble_eq_true rfl⟩ rfl (Nat.le_of_ble_eq_true rfl) rfl dX8_isFlick_4 ?_
  refine jr_if_eq X.c 24 dX8_isFlick_7 (by decide) (fun q7 => ?_) (fun q7 => ?_)
  · replace h := cr_if_t q7 h
    refine jr_iconst X.c (v := (0 : Int32)) dX8_isFlick_24 (by decide) ?_
    cases h
    exact jr_zret X.c (r := (0 : Int32)) hr0 (by decide) dX8_isFlick_25
  · replace h := cr_if_f q7 h
    refine jr_iload_n X.c dX8_isFlick_10 rfl 1 rfl ?_
    refine jr_iconst X.c (v := (1 : Int32)) dX8_isFlick_11 (by decide) ?_
    refine jr_bipush X.c (v := (40 : Int32)) dX8_isFlick_12 (by decide) ?_
    obtain ⟨r14, hr14, h⟩ := cr_bd_s h
    refine jc_Si X.c (As := [.int x1, .int (1 : Int32), .int (40 : Int32)]) (V1 := V) 3 (m_X8_within l w V x1 (1 : Int32) (40 : Int32)  r14 hr14) ⟨rfl, rfl⟩ ml_X8_39 st_X8_within in_X8 cd_X8_within hd_X8_within ⟨Nat.le_of_ble_eq_true rfl, Nat.le_of_ble_eq_true rfl⟩ ⟨Nat.le_of_ble_eq_true rfl, Nat.le_of_ble_eq_true rfl⟩ rfl (Nat.le_of_ble_eq_true rfl) rfl dX8_isFlick_14 ?_
    refine jr_if_eq X.c 24 dX8_isFlick_17 (by decide) (fun q17 => ?_) (fun q17 => ?_)
    · replace h := cr_if_t q17 h
      refine jr_iconst X.c (v := (0 : Int32)) dX8_isFlick_24 (by decide) ?_
      cases h
      exact jr_zret X.c (r := (0 : Int32)) hr0 (by decide) dX8_isFlick_25
    · replace h := cr_if_f q17 h
      refine jr_iconst X.c (v := (1 : Int32)) dX8_isFlick_20 (by decide) ?_
      refine jr_goto X.c 25 dX8_isFlick_21 (by decide) ?_
      cases h
      exact jr_zret X.c (r := (1 : Int32)) hr0 (by decide) dX8_isFlick_25
set_option maxRecDepth 100000 in
set_option maxHeartbeats 4000000 in
theorem m_X8_isFlick (l : Launch) (w : cr_Wd) (V : cr_Hp) (x0 : Int32) (x1 : Int32)  (x : Int32) (h : f_X8_isFlick x0 x1 = some x) : Met l yX8_isFlick (cr_wds yX8_isFlick cX8_isFlick 2 (some .boolean)) rm_X8_isFlick (cr_Pc w V [.int x0, .int x1]) (cr_Qi w V x) 0 0 (cr_A w) := by
  refine cr_met (own := RX8) (lv := [(0, .int x0), (1, .int x1)]) (by decide +kernel) rfl (Nat.le_of_ble_eq_true rfl) rfl (fun p e s m args below meth c X hr0 => ?_)
  exact t_X8_isFlick X x0 x1 V  hr0 x h
abbrev rm_X8_ringsOfMarble : Room := { frames := 3, cells := 0, slots := 0, locals := 71 }
theorem hd_X8_ringsOfMarble : yX8_ringsOfMarble.cls = RX8 ∧ yX8_ringsOfMarble.cls ≠ "java/lang/invoke/MethodHandle" ∧ yX8_ringsOfMarble.cls ≠ "java/lang/invoke/VarHandle" ∧ (parseMethodDescriptor yX8_ringsOfMarble.desc).map (fun d => d.parameters.length) = some 1 := by decide +kernel
def f_X8_ringsOfMarble (x1 : Int32) (V : cr_Hp) : Option (Int32) :=
  cr_bd (f_X8_part x1 (0 : Int32) V) (fun (r4 : Int32) => cr_bd (f_X8_part x1 (1 : Int32) V) (fun (r10 : Int32) => cr_bd (f_X8_ringsOf r4 r10 V) (fun (r13 : Int32) => some r13)))
set_option maxRecDepth 100000 in
set_option maxHeartbeats 4000000 in
theorem t_X8_ringsOfMarble {p : Program} {l : Launch} {e : Env} {s : State} {m : MethodId} {args : Array Value} {below : List Frame} {meth : Method} {c : Code} {w : cr_Wd} (X : cr_Cx w RX8 (Cond.code yX8_ringsOfMarble cX8_ringsOfMarble 2 (some .int)) cX8_ringsOfMarble 2 p s m args meth c) (x1 : Int32) (V : cr_Hp)  (hr0 : meth.sig.returnType = (some .int)) (x : Int32) (h : f_X8_ringsOfMarble x1 V = some x) : cr_J w 2 p l e rm_X8_ringsOfMarble s m args below meth c 0 0 (MQ below (cr_Qi w V x) args s 0 0 (cr_A w)) V 0 [(0, .ref (w.1 159)), (1, .int x1)] [] := by
  unfold f_X8_ringsOfMarble at h
  refine jr_aload_n X.c dX8_ringsOfMarble_0 rfl 0 rfl ?_
  refine jr_aload_n X.c dX8_ringsOfMarble_1 rfl 0 rfl ?_
  refine jr_iload_n X.c dX8_ringsOfMarble_2 rfl 1 rfl ?_
  refine jr_iconst X.c (v := (0 : Int32)) dX8_ringsOfMarble_3 (by decide) ?_
  obtain ⟨r4, hr4, h⟩ := cr_bd_s h
  refine jc_Vi X.c (As := [.int x1, .int (0 : Int32)]) (V1 := V) (C := RX8) (T := TX8) (N := 22) (ci := 8) 2 (m_X8_part l w V x1 (0 : Int32)  r4 hr4) ⟨rfl, rfl⟩ ml_X8_43 im_X8_part sl_X8_part in_X8 cd_X8_part hd_X8_part ⟨Nat.le_of_ble_eq_true rfl, Nat.le_of_ble_eq_true rfl⟩ ⟨Nat.le_of_ble_eq_true rfl, Nat.le_of_ble_eq_true rfl⟩ rfl (Nat.le_of_ble_eq_true rfl) (by decide) ((cr_row_159 w) _) rfl rfl dX8_ringsOfMarble_4 ?_
  refine jr_aload_n X.c dX8_ringsOfMarble_7 rfl 0 rfl ?_
  refine jr_iload_n X.c dX8_ringsOfMarble_8 rfl 1 rfl ?_
  refine jr_iconst X.c (v := (1 : Int32)) dX8_ringsOfMarble_9 (by decide) ?_
  obtain ⟨r10, hr10, h⟩ := cr_bd_s h
  refine jc_Vi X.c (As := [.int x1, .int (1 : Int32)]) (V1 := V) (C := RX8) (T := TX8) (N := 22) (ci := 8) 2 (m_X8_part l w V x1 (1 : Int32)  r10 hr10) ⟨rfl, rfl⟩ ml_X8_43 im_X8_part sl_X8_part in_X8 cd_X8_part hd_X8_part ⟨Nat.le_of_ble_eq_true rfl, Nat.le_of_ble_eq_true rfl⟩ ⟨Nat.le_of_ble_eq_true rfl, Nat.le_of_ble_eq_true rfl⟩ rfl (Nat.le_of_ble_eq_true rfl) (by decide) ((cr_row_159 w) _) rfl rfl dX8_ringsOfMarble_10 ?_
  obtain ⟨r13, hr13, h⟩ := cr_bd_s h
  refine jc_Vi X.c (As := [.int r4, .int r10]) (V1 := V) (C := RX8) (T := TX8) (N := 22) (ci := 8) 2 (m_X8_ringsOf l w V r4 r10  r13 hr13) ⟨rfl, rfl⟩ ml_X8_53 im_X8_ringsOf sl_X8_ringsOf in_X8 cd_X8_ringsOf hd_X8_ringsOf ⟨Nat.le_of_ble_eq_true rfl, Nat.le_of_ble_eq_true rfl⟩ ⟨Nat.le_of_ble_eq_true rfl, Nat.le_of_ble_eq_true rfl⟩ rfl (Nat.le_of_ble_eq_true rfl) (by decide) ((cr_row_159 w) _) rfl rfl dX8_ringsOfMarble_13 ?_
  cases h
  exact jr_iret X.c hr0 dX8_ringsOfMarble_16
set_option maxRecDepth 100000 in
set_option maxHeartbeats 4000000 in
theorem m_X8_ringsOfMarble (l : Launch) (w : cr_Wd) (V : cr_Hp) (x1 : Int32)  (x : Int32) (h : f_X8_ringsOfMarble x1 V = some x) : Met l yX8_ringsOfMarble (cr_wds yX8_ringsOfMarble cX8_ringsOfMarble 2 (some .int)) rm_X8_ringsOfMarble (cr_Pc w V [.ref (w.1 159), .int x1]) (cr_Qi w V x) 0 0 (cr_A w) := by
  refine cr_met (own := RX8) (lv := [(0, .ref (w.1 159)), (1, .int x1)]) (by decide +kernel) rfl (Nat.le_of_ble_eq_true rfl) rfl (fun p e s m args below meth c X hr0 => ?_)
  exact t_X8_ringsOfMarble X x1 V  hr0 x h
abbrev rm_X8_rolls : Room := { frames := 4, cells := 0, slots := 0, locals := 92 }
theorem hd_X8_rolls : yX8_rolls.cls = RX8 ∧ yX8_rolls.cls ≠ "java/lang/invoke/MethodHandle" ∧ yX8_rolls.cls ≠ "java/lang/invoke/VarHandle" ∧ (parseMethodDescriptor yX8_rolls.desc).map (fun d => d.parameters.length) = some 3 := by decide +kernel
def f_X8_rolls_b227 (x8_30 : Int32) (y5_70 : Int32) (y6_105 : Int32) (r134 : Int32) (z0_227 : Int32) (V_105 : cr_Hp) : Option ((Int32 × Int32 × Int32 × Int32 × Int32 × cr_Hp) ⊕ (Int32 × cr_Hp)) :=
  cr_lt (cr_pt V_105 159 9 ((V_105 159 9) ||| ((1 : Int32) <<< (r134 &&& 31)))) (fun (V243 : cr_Hp) => cr_gd (cr_ix (4 : Int32) 80) (cr_gd (cr_ix (4 : Int32) 80) (cr_lt (cr_pt V243 160 (4 : Int32).toNatClampNeg ((V243 160 (4 : Int32).toNatClampNeg) + (1 : Int32))) (fun (V258 : cr_Hp) => if (x8_30 + (1 : Int32)) = (60 : Int32) then (some (.inl (r134, y5_70, y6_105, (0 : Int32), (x8_30 + (1 : Int32)), V258))) else (some (.inl (r134, y5_70, y6_105, z0_227, (x8_30 + (1 : Int32)), V258)))))))
set_option maxRecDepth 100000 in
set_option maxHeartbeats 4000000 in
theorem t_X8_rolls_b227 {p : Program} {l : Launch} {e : Env} {s : State} {m : MethodId} {args : Array Value} {below : List Frame} {meth : Method} {c : Code} {w : cr_Wd} {Q : State → Prop} (X : cr_Cx w RX8 (Cond.code yX8_rolls cX8_rolls 12 none) cX8_rolls 12 p s m args meth c) (x8_30 : Int32) (y5_70 : Int32) (y6_105 : Int32) (r134 : Int32) (z0_227 : Int32) (V_105 : cr_Hp)  (x : (Int32 × Int32 × Int32 × Int32 × Int32 × cr_Hp) ⊕ (Int32 × cr_Hp)) (h : f_X8_rolls_b227 x8_30 y5_70 y6_105 r134 z0_227 V_105 = some x) (kl : ∀ (x4_30 : Int32) (x5_30 : Int32) (x6_30 : Int32) (x7_30 : Int32) (x8_30 : Int32) (V_l30 : cr_Hp), x = .inl (x4_30, x5_30, x6_30, x7_30, x8_30, V_l30) → cr_J w 12 p l e rm_X8_rolls s m args below meth c 0 0 Q V_l30 30 [(0, .ref (w.1 159)), (4, .int x4_30), (5, .int x5_30), (6, .int x6_30), (7, .int x7_30), (8, .int x8_30)] []) (kr277 : ∀ (u4_30_277 : Int32) (V_e30_277 : cr_Hp), x = .inr (u4_30_277, V_e30_277) → cr_J w 12 p l e rm_X8_rolls s m args below meth c 0 0 Q V_e30_277 277 [(0, .ref (w.1 159)), (4, .int u4_30_277)] []) : cr_J w 12 p l e rm_X8_rolls s m args below meth c 0 0 Q V_105 227 [(0, .ref (w.1 159)), (5, .int y5_70), (6, .int y6_105), (8, .int x8_30), (11, .int r134)] [.int z0_227] := by
  unfold f_X8_rolls_b227 at h
  refine jr_istore X.c (lv2 := [(7, .int z0_227), (0, .ref (w.1 159)), (5, .int y5_70), (6, .int y6_105), (8, .int x8_30), (11, .int r134)]) dX8_rolls_227 (by decide) rfl ?_
  refine jr_iload X.c dX8_rolls_229 5 rfl ?_
  refine jr_istore X.c (lv2 := [(4, .int r134), (7, .int z0_227), (0, .ref (w.1 159)), (5, .int y5_70), (6, .int y6_105), (8, .int x8_30), (11, .int r134)]) dX8_rolls_231 (by decide) rfl ?_
  refine jr_aload_n X.c dX8_rolls_233 rfl 2 rfl ?_
  refine jr_dup X.c dX8_rolls_234 rfl ?_
  refine jr_get X.c (ci := 8) (C := RX8) (T := TX8) (N := 22) (k := 9) rfl cr_in8 (by decide) ((cr_row_159 w) _) rfl (by decide) fl_X8_60 dX8_rolls_235 ?_
  refine jr_iconst X.c (v := (1 : Int32)) dX8_rolls_238 (by decide) ?_
  refine jr_iload X.c dX8_rolls_239 0 rfl ?_
  refine jr_ishl X.c dX8_rolls_241 ?_
  refine jr_ior X.c dX8_rolls_242 ?_
  obtain ⟨V243, eV243, h⟩ := cr_lt_s h
  refine jr_put X.c (ci := 8) (C := RX8) (T := TX8) (N := 22) (k := 9) rfl cr_in8 tyX8 tyX8_ok nmX8 (by decide) (cr_row_159 w) rfl (Nat.le_of_ble_eq_true rfl) (by decide) rfl rfl rfl fl_X8_60 dX8_rolls_243 eV243 ?_
  refine jr_iinc X.c (v := (x8_30 + (1 : Int32))) (lv2 := [(8, .int (x8_30 + (1 : Int32))), (4, .int r134), (7, .int z0_227), (0, .ref (w.1 159)), (5, .int y5_70), (6, .int y6_105), (11, .int r134)]) dX8_rolls_246 5 rfl (by rfl) (by decide) rfl ?_
  refine jr_aload_n X.c dX8_rolls_249 rfl 3 rfl ?_
  refine jr_get X.c (ci := 8) (C := RX8) (T := TX8) (N := 22) (k := 0) rfl cr_in8 (by decide) ((cr_row_159 w) _) rfl (by decide) fl_X8_7 dX8_rolls_250 ?_
  refine jr_iconst X.c (v := (4 : Int32)) dX8_rolls_253 (by decide) ?_
  refine jr_dup2 X.c dX8_rolls_254 rfl rfl ?_
  obtain ⟨hi255, h⟩ := cr_gd_s h
  refine jr_iald X.c (by decide) ((cr_row_160 w) _) hi255 dX8_rolls_255 ?_
  refine jr_iconst X.c (v := (1 : Int32)) dX8_rolls_256 (by decide) ?_
  refine jr_iadd X.c dX8_rolls_257 ?_
  obtain ⟨hi258, h⟩ := cr_gd_s h
  obtain ⟨V258, eV258, h⟩ := cr_lt_s h
  refine jr_iast X.c (by decide) (cr_row_160 w) hi258 dX8_rolls_258 eV258 ?_
  refine jr_iload X.c dX8_rolls_259 0 rfl ?_
  refine jr_bipush X.c (v := (60 : Int32)) dX8_rolls_261 (by decide) ?_
  refine jr_icmp_ne X.c 270 dX8_rolls_263 (by decide) (fun q263 => ?_) (fun q263 => ?_)
  · replace h := cr_if_f q263 h
    refine jr_iload X.c dX8_rolls_270 2 rfl ?_
    refine jr_istore X.c (lv2 := [(7, .int z0_227), (8, .int (x8_30 + (1 : Int32))), (4, .int r134), (0, .ref (w.1 159)), (5, .int y5_70), (6, .int y6_105), (11, .int r134)]) dX8_rolls_272 (by decide) rfl ?_
    refine jr_goto X.c 30 dX8_rolls_274 (by decide) ?_
    cases h
    refine jr_sub [3, 2, 4, 5, 0, 1] rfl ?_
    exact kl r134 y5_70 y6_105 z0_227 (x8_30 + (1 : Int32)) V258 rfl
  · replace h := cr_if_t q263 h
    refine jr_iconst X.c (v := (0 : Int32)) dX8_rolls_266 (by decide) ?_
    refine jr_goto X.c 272 dX8_rolls_267 (by decide) ?_
    refine jr_istore X.c (lv2 := [(7, .int (0 : Int32)), (8, .int (x8_30 + (1 : Int32))), (4, .int r134), (0, .ref (w.1 159)), (5, .int y5_70), (6, .int y6_105), (11, .int r134)]) dX8_rolls_272 (by decide) rfl ?_
    refine jr_goto X.c 30 dX8_rolls_274 (by decide) ?_
    cases h
    refine jr_sub [3, 2, 4, 5, 0, 1] rfl ?_
    exact kl r134 y5_70 y6_105 (0 : Int32) (x8_30 + (1 : Int32)) V258 rfl
def f_X8_rolls_b105 (x4_30 : Int32) (x7_30 : Int32) (x8_30 : Int32) (y5_70 : Int32) (y6_105 : Int32) (V_105 : cr_Hp) : Option ((Int32 × Int32 × Int32 × Int32 × Int32 × cr_Hp) ⊕ (Int32 × cr_Hp)) :=
  cr_bd (f_X8_part x4_30 (0 : Int32) V_105) (fun (r109 : Int32) => cr_bd (f_X8_part x4_30 (1 : Int32) V_105) (fun (r121 : Int32) => cr_bd (f_X8_marbleAt (r109 + y5_70) (r121 + y6_105) V_105) (fun (r134 : Int32) => if r134 = (-1006 : Int32) then (cr_bd (f_X8_ringsOfMarble x4_30 V_105) (fun (r153 : Int32) => cr_bd (f_X8_ringsOf (r109 + y5_70) (r121 + y6_105) V_105) (fun (r161 : Int32) => cr_bd (f_X8_ones (r153 ^^^ r161)) (fun (r165 : Int32) => cr_bd (f_X8_setPart x4_30 (0 : Int32) (r109 + y5_70) V_105) (fun (V178 : cr_Hp) => cr_bd (f_X8_setPart x4_30 (1 : Int32) (r121 + y6_105) V178) (fun (V187 : cr_Hp) => some (.inl (x4_30, y5_70, y6_105, (x7_30 - ((1 : Int32) + r165)), x8_30, V187)))))))) else (cr_bd (f_X8_part x4_30 (2 : Int32) V_105) (fun (r199 : Int32) => cr_bd (f_X8_part r134 (2 : Int32) V_105) (fun (r207 : Int32) => cr_gd (¬ r207 = 0) (if ((x7_30 * r199) / r207) ≤ (40 : Int32) then (f_X8_rolls_b227 x8_30 y5_70 y6_105 r134 ((x7_30 * r199) / r207) V_105) else (f_X8_rolls_b227 x8_30 y5_70 y6_105 r134 (40 : Int32) V_105))))))))
set_option maxRecDepth 100000 in
set_option maxHeartbeats 4000000 in
theorem t_X8_rolls_b105 {p : Program} {l : Launch} {e : Env} {s : State} {m : MethodId} {args : Array Value} {below : List Frame} {meth : Method} {c : Code} {w : cr_Wd} {Q : State → Prop} (X : cr_Cx w RX8 (Cond.code yX8_rolls cX8_rolls 12 none) cX8_rolls 12 p s m args meth c) (x4_30 : Int32) (x7_30 : Int32) (x8_30 : Int32) (y5_70 : Int32) (y6_105 : Int32) (V_105 : cr_Hp)  (x : (Int32 × Int32 × Int32 × Int32 × Int32 × cr_Hp) ⊕ (Int32 × cr_Hp)) (h : f_X8_rolls_b105 x4_30 x7_30 x8_30 y5_70 y6_105 V_105 = some x) (kl : ∀ (x4_30 : Int32) (x5_30 : Int32) (x6_30 : Int32) (x7_30 : Int32) (x8_30 : Int32) (V_l30 : cr_Hp), x = .inl (x4_30, x5_30, x6_30, x7_30, x8_30, V_l30) → cr_J w 12 p l e rm_X8_rolls s m args below meth c 0 0 Q V_l30 30 [(0, .ref (w.1 159)), (4, .int x4_30), (5, .int x5_30), (6, .int x6_30), (7, .int x7_30), (8, .int x8_30)] []) (kr277 : ∀ (u4_30_277 : Int32) (V_e30_277 : cr_Hp), x = .inr (u4_30_277, V_e30_277) → cr_J w 12 p l e rm_X8_rolls s m args below meth c 0 0 Q V_e30_277 277 [(0, .ref (w.1 159)), (4, .int u4_30_277)] []) : cr_J w 12 p l e rm_X8_rolls s m args below meth c 0 0 Q V_105 105 [(0, .ref (w.1 159)), (4, .int x4_30), (5, .int y5_70), (6, .int y6_105), (7, .int x7_30), (8, .int x8_30)] [] := by
  unfold f_X8_rolls_b105 at h
  refine jr_aload_n X.c dX8_rolls_105 rfl 0 rfl ?_
  refine jr_iload X.c dX8_rolls_106 1 rfl ?_
  refine jr_iconst X.c (v := (0 : Int32)) dX8_rolls_108 (by decide) ?_
  obtain ⟨r109, hr109, h⟩ := cr_bd_s h
  refine jc_Vi X.c (As := [.int x4_30, .int (0 : Int32)]) (V1 := V_105) (C := RX8) (T := TX8) (N := 22) (ci := 8) 2 (m_X8_part l w V_105 x4_30 (0 : Int32)  r109 hr109) ⟨rfl, rfl⟩ ml_X8_43 im_X8_part sl_X8_part in_X8 cd_X8_part hd_X8_part ⟨Nat.le_of_ble_eq_true rfl, Nat.le_of_ble_eq_true rfl⟩ ⟨Nat.le_of_ble_eq_true rfl, Nat.le_of_ble_eq_true rfl⟩ rfl (Nat.le_of_ble_eq_true rfl) (by decide) ((cr_row_159 w) _) rfl rfl dX8_rolls_109 ?_
  refine jr_iload X.c dX8_rolls_112 2 rfl ?_
  refine jr_iadd X.c dX8_rolls_114 ?_
  refine jr_istore X.c (lv2 := [(9, .int (r109 + y5_70)), (0, .ref (w.1 159)), (4, .int x4_30), (5, .int y5_70), (6, .int y6_105), (7, .int x7_30), (8, .int x8_30)]) dX8_rolls_115 (by decide) rfl ?_
  refine jr_aload_n X.c dX8_rolls_117 rfl 1 rfl ?_
  refine jr_iload X.c dX8_rolls_118 2 rfl ?_
  refine jr_iconst X.c (v := (1 : Int32)) dX8_rolls_120 (by decide) ?_
  obtain ⟨r121, hr121, h⟩ := cr_bd_s h
  refine jc_Vi X.c (As := [.int x4_30, .int (1 : Int32)]) (V1 := V_105) (C := RX8) (T := TX8) (N := 22) (ci := 8) 2 (m_X8_part l w V_105 x4_30 (1 : Int32)  r121 hr121) ⟨rfl, rfl⟩ ml_X8_43 im_X8_part sl_X8_part in_X8 cd_X8_part hd_X8_part ⟨Nat.le_of_ble_eq_true rfl, Nat.le_of_ble_eq_true rfl⟩ ⟨Nat.le_of_ble_eq_true rfl, Nat.le_of_ble_eq_true rfl⟩ rfl (Nat.le_of_ble_eq_true rfl) (by decide) ((cr_row_159 w) _) rfl rfl dX8_rolls_121 ?_
  refine jr_iload X.c dX8_rolls_124 4 rfl ?_
  refine jr_iadd X.c dX8_rolls_126 ?_
  refine jr_istore X.c (lv2 := [(10, .int (r121 + y6_105)), (9, .int (r109 + y5_70)), (0, .ref (w.1 159)), (4, .int x4_30), (5, .int y5_70), (6, .int y6_105), (7, .int x7_30), (8, .int x8_30)]) dX8_rolls_127 (by decide) rfl ?_
  refine jr_aload_n X.c dX8_rolls_129 rfl 2 rfl ?_
  refine jr_iload X.c dX8_rolls_130 1 rfl ?_
  refine jr_iload X.c dX8_rolls_132 0 rfl ?_
  obtain ⟨r134, hr134, h⟩ := cr_bd_s h
  refine jc_Vi X.c (As := [.int (r109 + y5_70), .int (r121 + y6_105)]) (V1 := V_105) (C := RX8) (T := TX8) (N := 22) (ci := 8) 2 (m_X8_marbleAt l w V_105 (r109 + y5_70) (r121 + y6_105)  r134 hr134) ⟨rfl, rfl⟩ ml_X8_63 im_X8_marbleAt sl_X8_marbleAt in_X8 cd_X8_marbleAt hd_X8_marbleAt ⟨Nat.le_of_ble_eq_true rfl, Nat.le_of_ble_eq_true rfl⟩ ⟨Nat.le_of_ble_eq_true rfl, Nat.le_of_ble_eq_true rfl⟩ rfl (Nat.le_of_ble_eq_true rfl) (by decide) ((cr_row_159 w) _) rfl rfl dX8_rolls_134 ?_
  refine jr_istore X.c (lv2 := [(11, .int r134), (10, .int (r121 + y6_105)), (9, .int (r109 + y5_70)), (0, .ref (w.1 159)), (4, .int x4_30), (5, .int y5_70), (6, .int y6_105), (7, .int x7_30), (8, .int x8_30)]) dX8_rolls_137 (by decide) rfl ?_
  refine jr_iload X.c dX8_rolls_139 0 rfl ?_
  refine jr_sipush X.c (v := (-1006 : Int32)) dX8_rolls_141 (by decide) ?_
  refine jr_icmp_ne X.c 193 dX8_rolls_144 (by decide) (fun q144 => ?_) (fun q144 => ?_)
  · replace h := cr_if_f q144 h
    refine jr_iload X.c dX8_rolls_193 7 rfl ?_
    refine jr_aload_n X.c dX8_rolls_195 rfl 3 rfl ?_
    refine jr_iload X.c dX8_rolls_196 4 rfl ?_
    refine jr_iconst X.c (v := (2 : Int32)) dX8_rolls_198 (by decide) ?_
    obtain ⟨r199, hr199, h⟩ := cr_bd_s h
    refine jc_Vi X.c (As := [.int x4_30, .int (2 : Int32)]) (V1 := V_105) (C := RX8) (T := TX8) (N := 22) (ci := 8) 2 (m_X8_part l w V_105 x4_30 (2 : Int32)  r199 hr199) ⟨rfl, rfl⟩ ml_X8_43 im_X8_part sl_X8_part in_X8 cd_X8_part hd_X8_part ⟨Nat.le_of_ble_eq_true rfl, Nat.le_of_ble_eq_true rfl⟩ ⟨Nat.le_of_ble_eq_true rfl, Nat.le_of_ble_eq_true rfl⟩ rfl (Nat.le_of_ble_eq_true rfl) (by decide) ((cr_row_159 w) _) rfl rfl dX8_rolls_199 ?_
    refine jr_imul X.c dX8_rolls_202 ?_
    refine jr_aload_n X.c dX8_rolls_203 rfl 3 rfl ?_
    refine jr_iload X.c dX8_rolls_204 0 rfl ?_
    refine jr_iconst X.c (v := (2 : Int32)) dX8_rolls_206 (by decide) ?_
    obtain ⟨r207, hr207, h⟩ := cr_bd_s h
    refine jc_Vi X.c (As := [.int r134, .int (2 : Int32)]) (V1 := V_105) (C := RX8) (T := TX8) (N := 22) (ci := 8) 2 (m_X8_part l w V_105 r134 (2 : Int32)  r207 hr207) ⟨rfl, rfl⟩ ml_X8_43 im_X8_part sl_X8_part in_X8 cd_X8_part hd_X8_part ⟨Nat.le_of_ble_eq_true rfl, Nat.le_of_ble_eq_true rfl⟩ ⟨Nat.le_of_ble_eq_true rfl, Nat.le_of_ble_eq_true rfl⟩ rfl (Nat.le_of_ble_eq_true rfl) (by decide) ((cr_row_159 w) _) rfl rfl dX8_rolls_207 ?_
    obtain ⟨hk210, h⟩ := cr_gd_s h
    refine jr_idiv X.c dX8_rolls_210 hk210 ?_
    refine jr_istore X.c (lv2 := [(7, .int ((x7_30 * r199) / r207)), (11, .int r134), (10, .int (r121 + y6_105)), (9, .int (r109 + y5_70)), (0, .ref (w.1 159)), (4, .int x4_30), (5, .int y5_70), (6, .int y6_105), (8, .int x8_30)]) dX8_rolls_211 (by decide) rfl ?_
    refine jr_iload X.c dX8_rolls_213 0 rfl ?_
    refine jr_bipush X.c (v := (40 : Int32)) dX8_rolls_215 (by decide) ?_
    refine jr_icmp_le X.c 225 dX8_rolls_217 (by decide) (fun q217 => ?_) (fun q217 => ?_)
    · replace h := cr_if_t q217 h
      refine jr_iload X.c dX8_rolls_225 0 rfl ?_
      refine jr_sub [4, 6, 7, 8, 1] rfl ?_
      exact t_X8_rolls_b227 X x8_30 y5_70 y6_105 r134 ((x7_30 * r199) / r207) V_105  x h kl kr277
    · replace h := cr_if_f q217 h
      refine jr_bipush X.c (v := (40 : Int32)) dX8_rolls_220 (by decide) ?_
      refine jr_goto X.c 227 dX8_rolls_222 (by decide) ?_
      refine jr_sub [4, 6, 7, 8, 1] rfl ?_
      exact t_X8_rolls_b227 X x8_30 y5_70 y6_105 r134 (40 : Int32) V_105  x h kl kr277
  · replace h := cr_if_t q144 h
    refine jr_iload X.c dX8_rolls_147 7 rfl ?_
    refine jr_iconst X.c (v := (1 : Int32)) dX8_rolls_149 (by decide) ?_
    refine jr_aload_n X.c dX8_rolls_150 rfl 3 rfl ?_
    refine jr_iload X.c dX8_rolls_151 4 rfl ?_
    obtain ⟨r153, hr153, h⟩ := cr_bd_s h
    refine jc_Vi X.c (As := [.int x4_30]) (V1 := V_105) (C := RX8) (T := TX8) (N := 22) (ci := 8) 1 (m_X8_ringsOfMarble l w V_105 x4_30  r153 hr153) ⟨rfl, rfl⟩ ml_X8_66 im_X8_ringsOfMarble sl_X8_ringsOfMarble in_X8 cd_X8_ringsOfMarble hd_X8_ringsOfMarble ⟨Nat.le_of_ble_eq_true rfl, Nat.le_of_ble_eq_true rfl⟩ ⟨Nat.le_of_ble_eq_true rfl, Nat.le_of_ble_eq_true rfl⟩ rfl (Nat.le_of_ble_eq_true rfl) (by decide) ((cr_row_159 w) _) rfl rfl dX8_rolls_153 ?_
    refine jr_aload_n X.c dX8_rolls_156 rfl 3 rfl ?_
    refine jr_iload X.c dX8_rolls_157 2 rfl ?_
    refine jr_iload X.c dX8_rolls_159 1 rfl ?_
    obtain ⟨r161, hr161, h⟩ := cr_bd_s h
    refine jc_Vi X.c (As := [.int (r109 + y5_70), .int (r121 + y6_105)]) (V1 := V_105) (C := RX8) (T := TX8) (N := 22) (ci := 8) 2 (m_X8_ringsOf l w V_105 (r109 + y5_70) (r121 + y6_105)  r161 hr161) ⟨rfl, rfl⟩ ml_X8_53 im_X8_ringsOf sl_X8_ringsOf in_X8 cd_X8_ringsOf hd_X8_ringsOf ⟨Nat.le_of_ble_eq_true rfl, Nat.le_of_ble_eq_true rfl⟩ ⟨Nat.le_of_ble_eq_true rfl, Nat.le_of_ble_eq_true rfl⟩ rfl (Nat.le_of_ble_eq_true rfl) (by decide) ((cr_row_159 w) _) rfl rfl dX8_rolls_161 ?_
    refine jr_ixor X.c dX8_rolls_164 ?_
    obtain ⟨r165, hr165, h⟩ := cr_bd_s h
    refine jc_Si X.c (As := [.int (r153 ^^^ r161)]) (V1 := V_105) 1 (m_X8_ones l w V_105 (r153 ^^^ r161)  r165 hr165) ⟨rfl, rfl⟩ ml_X8_70 st_X8_ones in_X8 cd_X8_ones hd_X8_ones ⟨Nat.le_of_ble_eq_true rfl, Nat.le_of_ble_eq_true rfl⟩ ⟨Nat.le_of_ble_eq_true rfl, Nat.le_of_ble_eq_true rfl⟩ rfl (Nat.le_of_ble_eq_true rfl) rfl dX8_rolls_165 ?_
    refine jr_iadd X.c dX8_rolls_168 ?_
    refine jr_isub X.c dX8_rolls_169 ?_
    refine jr_istore X.c (lv2 := [(7, .int (x7_30 - ((1 : Int32) + r165))), (11, .int r134), (10, .int (r121 + y6_105)), (9, .int (r109 + y5_70)), (0, .ref (w.1 159)), (4, .int x4_30), (5, .int y5_70), (6, .int y6_105), (8, .int x8_30)]) dX8_rolls_170 (by decide) rfl ?_
    refine jr_aload_n X.c dX8_rolls_172 rfl 4 rfl ?_
    refine jr_iload X.c dX8_rolls_173 5 rfl ?_
    refine jr_iconst X.c (v := (0 : Int32)) dX8_rolls_175 (by decide) ?_
    refine jr_iload X.c dX8_rolls_176 3 rfl ?_
    obtain ⟨V178, hr178, h⟩ := cr_bd_s h
    refine jc_Vv X.c (As := [.int x4_30, .int (0 : Int32), .int (r109 + y5_70)]) (V1 := V178) (C := RX8) (T := TX8) (N := 22) (ci := 8) 3 (m_X8_setPart l w V_105 x4_30 (0 : Int32) (r109 + y5_70)  V178 hr178) ⟨rfl, rfl⟩ ml_X8_73 im_X8_setPart sl_X8_setPart in_X8 cd_X8_setPart hd_X8_setPart ⟨Nat.le_of_ble_eq_true rfl, Nat.le_of_ble_eq_true rfl⟩ ⟨Nat.le_of_ble_eq_true rfl, Nat.le_of_ble_eq_true rfl⟩ rfl (Nat.le_of_ble_eq_true rfl) (by decide) ((cr_row_159 w) _) rfl rfl dX8_rolls_178 ?_
    refine jr_aload_n X.c dX8_rolls_181 rfl 4 rfl ?_
    refine jr_iload X.c dX8_rolls_182 5 rfl ?_
    refine jr_iconst X.c (v := (1 : Int32)) dX8_rolls_184 (by decide) ?_
    refine jr_iload X.c dX8_rolls_185 2 rfl ?_
    obtain ⟨V187, hr187, h⟩ := cr_bd_s h
    refine jc_Vv X.c (As := [.int x4_30, .int (1 : Int32), .int (r121 + y6_105)]) (V1 := V187) (C := RX8) (T := TX8) (N := 22) (ci := 8) 3 (m_X8_setPart l w V178 x4_30 (1 : Int32) (r121 + y6_105)  V187 hr187) ⟨rfl, rfl⟩ ml_X8_73 im_X8_setPart sl_X8_setPart in_X8 cd_X8_setPart hd_X8_setPart ⟨Nat.le_of_ble_eq_true rfl, Nat.le_of_ble_eq_true rfl⟩ ⟨Nat.le_of_ble_eq_true rfl, Nat.le_of_ble_eq_true rfl⟩ rfl (Nat.le_of_ble_eq_true rfl) (by decide) ((cr_row_159 w) _) rfl rfl dX8_rolls_187 ?_
    refine jr_goto X.c 274 dX8_rolls_190 (by decide) ?_
    refine jr_goto X.c 30 dX8_rolls_274 (by decide) ?_
    cases h
    refine jr_sub [4, 5, 6, 7, 0, 8] rfl ?_
    exact kl x4_30 y5_70 y6_105 (x7_30 - ((1 : Int32) + r165)) x8_30 V187 rfl
def f_X8_rolls_b70 (x4_30 : Int32) (x6_30 : Int32) (x7_30 : Int32) (x8_30 : Int32) (y5_70 : Int32) (V_70 : cr_Hp) : Option ((Int32 × Int32 × Int32 × Int32 × Int32 × cr_Hp) ⊕ (Int32 × cr_Hp)) :=
  cr_bd (f_X8_part x4_30 (1 : Int32) V_70) (fun (r74 : Int32) => cr_bd (f_X8_within (r74 + x6_30) (0 : Int32) (30 : Int32)) (fun (r83 : Int32) => if r83 = 0 then (cr_gd (cr_ix (7 : Int32) 80) (cr_gd (cr_ix (7 : Int32) 80) (cr_lt (cr_pt V_70 160 (7 : Int32).toNatClampNeg ((V_70 160 (7 : Int32).toNatClampNeg) + (1 : Int32))) (fun (V104 : cr_Hp) => f_X8_rolls_b105 x4_30 x7_30 x8_30 y5_70 (-x6_30) V104)))) else (f_X8_rolls_b105 x4_30 x7_30 x8_30 y5_70 x6_30 V_70)))
set_option maxRecDepth 100000 in
set_option maxHeartbeats 4000000 in
theorem t_X8_rolls_b70 {p : Program} {l : Launch} {e : Env} {s : State} {m : MethodId} {args : Array Value} {below : List Frame} {meth : Method} {c : Code} {w : cr_Wd} {Q : State → Prop} (X : cr_Cx w RX8 (Cond.code yX8_rolls cX8_rolls 12 none) cX8_rolls 12 p s m args meth c) (x4_30 : Int32) (x6_30 : Int32) (x7_30 : Int32) (x8_30 : Int32) (y5_70 : Int32) (V_70 : cr_Hp)  (x : (Int32 × Int32 × Int32 × Int32 × Int32 × cr_Hp) ⊕ (Int32 × cr_Hp)) (h : f_X8_rolls_b70 x4_30 x6_30 x7_30 x8_30 y5_70 V_70 = some x) (kl : ∀ (x4_30 : Int32) (x5_30 : Int32) (x6_30 : Int32) (x7_30 : Int32) (x8_30 : Int32) (V_l30 : cr_Hp), x = .inl (x4_30, x5_30, x6_30, x7_30, x8_30, V_l30) → cr_J w 12 p l e rm_X8_rolls s m args below meth c 0 0 Q V_l30 30 [(0, .ref (w.1 159)), (4, .int x4_30), (5, .int x5_30), (6, .int x6_30), (7, .int x7_30), (8, .int x8_30)] []) (kr277 : ∀ (u4_30_277 : Int32) (V_e30_277 : cr_Hp), x = .inr (u4_30_277, V_e30_277) → cr_J w 12 p l e rm_X8_rolls s m args below meth c 0 0 Q V_e30_277 277 [(0, .ref (w.1 159)), (4, .int u4_30_277)] []) : cr_J w 12 p l e rm_X8_rolls s m args below meth c 0 0 Q V_70 70 [(0, .ref (w.1 159)), (4, .int x4_30), (5, .int y5_70), (6, .int x6_30), (7, .int x7_30), (8, .int x8_30)] [] := by
  unfold f_X8_rolls_b70 at h
  refine jr_aload_n X.c dX8_rolls_70 rfl 0 rfl ?_
  refine jr_iload X.c dX8_rolls_71 1 rfl ?_
  refine jr_iconst X.c (v := (1 : Int32)) dX8_rolls_73 (by decide) ?_
  obtain ⟨r74, hr74, h⟩ := cr_bd_s h
  refine jc_Vi X.c (As := [.int x4_30, .int (1 : Int32)]) (V1 := V_70) (C := RX8) (T := TX8) (N := 22) (ci := 8) 2 (m_X8_part l w V_70 x4_30 (1 : Int32)  r74 hr74) ⟨rfl, rfl⟩ ml_X8_43 im_X8_part sl_X8_part in_X8 cd_X8_part hd_X8_part ⟨Nat.le_of_ble_eq_true rfl, Nat.le_of_ble_eq_true rfl⟩ ⟨Nat.le_of_ble_eq_true rfl, Nat.le_of_ble_eq_true rfl⟩ rfl (Nat.le_of_ble_eq_true rfl) (by decide) ((cr_row_159 w) _) rfl rfl dX8_rolls_74 ?_
  refine jr_iload X.c dX8_rolls_77 3 rfl ?_
  refine jr_iadd X.c dX8_rolls_79 ?_
  refine jr_iconst X.c (v := (0 : Int32)) dX8_rolls_80 (by decide) ?_
  refine jr_bipush X.c (v := (30 : Int32)) dX8_rolls_81 (by decide) ?_
  obtain ⟨r83, hr83, h⟩ := cr_bd_s h
  refine jc_Si X.c (As := [.int (r74 + x6_30), .int (0 : Int32), .int (30 : Int32)]) (V1 := V_70) 3 (m_X8_within l w V_70 (r74 + x6_30) (0 : Int32) (30 : Int32)  r83 hr83) ⟨rfl, rfl⟩ ml_X8_39 st_X8_within in_X8 cd_X8_within hd_X8_within ⟨Nat.le_of_ble_eq_true rfl, Nat.le_of_ble_eq_true rfl⟩ ⟨Nat.le_of_ble_eq_true rfl, Nat.le_of_ble_eq_true rfl⟩ rfl (Nat.le_of_ble_eq_true rfl) rfl dX8_rolls_83 ?_
  refine jr_if_ne X.c 105 dX8_rolls_86 (by decide) (fun q86 => ?_) (fun q86 => ?_)
  · replace h := cr_if_f q86 h
    refine jr_sub [0, 1, 2, 3, 4, 5] rfl ?_
    exact t_X8_rolls_b105 X x4_30 x7_30 x8_30 y5_70 x6_30 V_70  x h kl kr277
  · replace h := cr_if_t q86 h
    refine jr_iload X.c dX8_rolls_89 3 rfl ?_
    refine jr_ineg X.c dX8_rolls_91 ?_
    refine jr_istore X.c (lv2 := [(6, .int (-x6_30)), (0, .ref (w.1 159)), (4, .int x4_30), (5, .int y5_70), (7, .int x7_30), (8, .int x8_30)]) dX8_rolls_92 (by decide) rfl ?_
    refine jr_aload_n X.c dX8_rolls_94 rfl 1 rfl ?_
    refine jr_get X.c (ci := 8) (C := RX8) (T := TX8) (N := 22) (k := 0) rfl cr_in8 (by decide) ((cr_row_159 w) _) rfl (by decide) fl_X8_7 dX8_rolls_95 ?_
    refine jr_bipush X.c (v := (7 : Int32)) dX8_rolls_98 (by decide) ?_
    refine jr_dup2 X.c dX8_rolls_100 rfl rfl ?_
    obtain ⟨hi101, h⟩ := cr_gd_s h
    refine jr_iald X.c (by decide) ((cr_row_160 w) _) hi101 dX8_rolls_101 ?_
    refine jr_iconst X.c (v := (1 : Int32)) dX8_rolls_102 (by decide) ?_
    refine jr_iadd X.c dX8_rolls_103 ?_
    obtain ⟨hi104, h⟩ := cr_gd_s h
    obtain ⟨V104, eV104, h⟩ := cr_lt_s h
    refine jr_iast X.c (by decide) (cr_row_160 w) hi104 dX8_rolls_104 eV104 ?_
    refine jr_sub [1, 2, 3, 0, 4, 5] rfl ?_
    exact t_X8_rolls_b105 X x4_30 x7_30 x8_30 y5_70 (-x6_30) V104  x h kl kr277
def f_X8_rolls_l30 (x4_30 : Int32) (x5_30 : Int32) (x6_30 : Int32) (x7_30 : Int32) (x8_30 : Int32) (V_l30 : cr_Hp) : Option ((Int32 × Int32 × Int32 × Int32 × Int32 × cr_Hp) ⊕ (Int32 × cr_Hp)) :=
  if x7_30 ≤ 0 then (some (.inr (x4_30, V_l30))) else (cr_bd (f_X8_part x4_30 (0 : Int32) V_l30) (fun (r39 : Int32) => cr_bd (f_X8_within (r39 + x5_30) (0 : Int32) (30 : Int32)) (fun (r48 : Int32) => if r48 = 0 then (cr_gd (cr_ix (7 : Int32) 80) (cr_gd (cr_ix (7 : Int32) 80) (cr_lt (cr_pt V_l30 160 (7 : Int32).toNatClampNeg ((V_l30 160 (7 : Int32).toNatClampNeg) + (1 : Int32))) (fun (V69 : cr_Hp) => f_X8_rolls_b70 x4_30 x6_30 x7_30 x8_30 (-x5_30) V69)))) else (f_X8_rolls_b70 x4_30 x6_30 x7_30 x8_30 x5_30 V_l30))))
set_option maxRecDepth 100000 in
set_option maxHeartbeats 4000000 in
theorem t_X8_rolls_l30 {p : Program} {l : Launch} {e : Env} {s : State} {m : MethodId} {args : Array Value} {below : List Frame} {meth : Method} {c : Code} {w : cr_Wd} {Q : State → Prop} (X : cr_Cx w RX8 (Cond.code yX8_rolls cX8_rolls 12 none) cX8_rolls 12 p s m args meth c) (x4_30 : Int32) (x5_30 : Int32) (x6_30 : Int32) (x7_30 : Int32) (x8_30 : Int32) (V_l30 : cr_Hp)  (x : (Int32 × Int32 × Int32 × Int32 × Int32 × cr_Hp) ⊕ (Int32 × cr_Hp)) (h : f_X8_rolls_l30 x4_30 x5_30 x6_30 x7_30 x8_30 V_l30 = some x) (kl : ∀ (x4_30 : Int32) (x5_30 : Int32) (x6_30 : Int32) (x7_30 : Int32) (x8_30 : Int32) (V_l30 : cr_Hp), x = .inl (x4_30, x5_30, x6_30, x7_30, x8_30, V_l30) → cr_J w 12 p l e rm_X8_rolls s m args below meth c 0 0 Q V_l30 30 [(0, .ref (w.1 159)), (4, .int x4_30), (5, .int x5_30), (6, .int x6_30), (7, .int x7_30), (8, .int x8_30)] []) (kr277 : ∀ (u4_30_277 : Int32) (V_e30_277 : cr_Hp), x = .inr (u4_30_277, V_e30_277) → cr_J w 12 p l e rm_X8_rolls s m args below meth c 0 0 Q V_e30_277 277 [(0, .ref (w.1 159)), (4, .int u4_30_277)] []) : cr_J w 12 p l e rm_X8_rolls s m args below meth c 0 0 Q V_l30 30 [(0, .ref (w.1 159)), (4, .int x4_30), (5, .int x5_30), (6, .int x6_30), (7, .int x7_30), (8, .int x8_30)] [] := by
  unfold f_X8_rolls_l30 at h
  refine jr_iload X.c dX8_rolls_30 4 rfl ?_
  refine jr_if_le X.c 277 dX8_rolls_32 (by decide) (fun q32 => ?_) (fun q32 => ?_)
  · replace h := cr_if_t q32 h
    cases h
    refine jr_sub [0, 1] rfl ?_
    exact kr277 x4_30 V_l30 rfl
  · replace h := cr_if_f q32 h
    refine jr_aload_n X.c dX8_rolls_35 rfl 0 rfl ?_
    refine jr_iload X.c dX8_rolls_36 1 rfl ?_
    refine jr_iconst X.c (v := (0 : Int32)) dX8_rolls_38 (by decide) ?_
    obtain ⟨r39, hr39, h⟩ := cr_bd_s h
    refine jc_Vi X.c (As := [.int x4_30, .int (0 : Int32)]) (V1 := V_l30) (C := RX8) (T := TX8) (N := 22) (ci := 8) 2 (m_X8_part l w V_l30 x4_30 (0 : Int32)  r39 hr39) ⟨rfl, rfl⟩ ml_X8_43 im_X8_part sl_X8_part in_X8 cd_X8_part hd_X8_part ⟨Nat.le_of_ble_eq_true rfl, Nat.le_of_ble_eq_true rfl⟩ ⟨Nat.le_of_ble_eq_true rfl, Nat.le_of_ble_eq_true rfl⟩ rfl (Nat.le_of_ble_eq_true rfl) (by decide) ((cr_row_159 w) _) rfl rfl dX8_rolls_39 ?_
    refine jr_iload X.c dX8_rolls_42 2 rfl ?_
    refine jr_iadd X.c dX8_rolls_44 ?_
    refine jr_iconst X.c (v := (0 : Int32)) dX8_rolls_45 (by decide) ?_
    refine jr_bipush X.c (v := (30 : Int32)) dX8_rolls_46 (by decide) ?_
    obtain ⟨r48, hr48, h⟩ := cr_bd_s h
    refine jc_Si X.c (As := [.int (r39 + x5_30), .int (0 : Int32), .int (30 : Int32)]) (V1 := V_l30) 3 (m_X8_within l w V_l30 (r39 + x5_30) (0 : Int32) (30 : Int32)  r48 hr48) ⟨rfl, rfl⟩ ml_X8_39 st_X8_within in_X8 cd_X8_within hd_X8_within ⟨Nat.le_of_ble_eq_true rfl, Nat.le_of_ble_eq_true rfl⟩ ⟨Nat.le_of_ble_eq_true rfl, Nat.le_of_ble_eq_true rfl⟩ rfl (Nat.le_of_ble_eq_true rfl) rfl dX8_rolls_48 ?_
    refine jr_if_ne X.c 70 dX8_rolls_51 (by decide) (fun q51 => ?_) (fun q51 => ?_)
    · replace h := cr_if_f q51 h
      refine jr_sub [0, 1, 2, 3, 4, 5] rfl ?_
      exact t_X8_rolls_b70 X x4_30 x6_30 x7_30 x8_30 x5_30 V_l30  x h kl kr277
    · replace h := cr_if_t q51 h
      refine jr_iload X.c dX8_rolls_54 2 rfl ?_
      refine jr_ineg X.c dX8_rolls_56 ?_
      refine jr_istore X.c (lv2 := [(5, .int (-x5_30)), (0, .ref (w.1 159)), (4, .int x4_30), (6, .int x6_30), (7, .int x7_30), (8, .int x8_30)]) dX8_rolls_57 (by decide) rfl ?_
      refine jr_aload_n X.c dX8_rolls_59 rfl 1 rfl ?_
      refine jr_get X.c (ci := 8) (C := RX8) (T := TX8) (N := 22) (k := 0) rfl cr_in8 (by decide) ((cr_row_159 w) _) rfl (by decide) fl_X8_7 dX8_rolls_60 ?_
      refine jr_bipush X.c (v := (7 : Int32)) dX8_rolls_63 (by decide) ?_
      refine jr_dup2 X.c dX8_rolls_65 rfl rfl ?_
      obtain ⟨hi66, h⟩ := cr_gd_s h
      refine jr_iald X.c (by decide) ((cr_row_160 w) _) hi66 dX8_rolls_66 ?_
      refine jr_iconst X.c (v := (1 : Int32)) dX8_rolls_67 (by decide) ?_
      refine jr_iadd X.c dX8_rolls_68 ?_
      obtain ⟨hi69, h⟩ := cr_gd_s h
      obtain ⟨V69, eV69, h⟩ := cr_lt_s h
      refine jr_iast X.c (by decide) (cr_row_160 w) hi69 dX8_rolls_69 eV69 ?_
      refine jr_sub [1, 2, 0, 3, 4, 5] rfl ?_
      exact t_X8_rolls_b70 X x4_30 x6_30 x7_30 x8_30 (-x5_30) V69  x h kl kr277
def f_X8_rolls (x1 : Int32) (x2 : Int32) (x3 : Int32) (V : cr_Hp) : Option (cr_Hp) :=
  cr_gd (cr_ix x2 8) (cr_lt ((V 164 x2.toNatClampNeg)) (fun (n9 : Int32) => cr_gd (cr_ix x2 8) (cr_lt ((V 165 x2.toNatClampNeg)) (fun (n17 : Int32) => cr_lt (cr_pt V 159 9 (0 : Int32)) (fun (V27 : cr_Hp) => cr_bd (cr_it (fun (q : Int32 × Int32 × Int32 × Int32 × Int32 × cr_Hp) => f_X8_rolls_l30  q.1 q.2.1 q.2.2.1 q.2.2.2.1 q.2.2.2.2.1 q.2.2.2.2.2) cr_FU (x1, n9, n17, x3, (0 : Int32), V27)) (cr_u2 (fun (u4_30_277 : Int32) (V_e30_277 : cr_Hp) => cr_lt (cr_pt V_e30_277 159 10 u4_30_277) (fun (V280 : cr_Hp) => cr_bd (f_X8_part u4_30_277 (0 : Int32) V280) (fun (r288 : Int32) => cr_lt (cr_pt V280 159 11 r288) (fun (V291 : cr_Hp) => cr_bd (f_X8_part u4_30_277 (1 : Int32) V291) (fun (r299 : Int32) => cr_lt (cr_pt V291 159 12 r299) (fun (V302 : cr_Hp) => some V302))))))))))))
set_option maxRecDepth 100000 in
set_option maxHeartbeats 4000000 in
theorem t_X8_rolls {p : Program} {l : Launch} {e : Env} {s : State} {m : MethodId} {args : Array Value} {below : List Frame} {meth : Method} {c : Code} {w : cr_Wd} (X : cr_Cx w RX8 (Cond.code yX8_rolls cX8_rolls 12 none) cX8_rolls 12 p s m args meth c) (x1 : Int32) (x2 : Int32) (x3 : Int32) (V : cr_Hp)  (hr0 : meth.sig.returnType = none) (x : cr_Hp) (h : f_X8_rolls x1 x2 x3 V = some x) : cr_J w 12 p l e rm_X8_rolls s m args below meth c 0 0 (MQ below (cr_Qv w x) args s 0 0 (cr_A w)) V 0 [(0, .ref (w.1 159)), (1, .int x1), (2, .int x2), (3, .int x3)] [] := by
  unfold f_X8_rolls at h
  refine jr_iload_n X.c dX8_rolls_0 rfl 1 rfl ?_
  refine jr_istore X.c (lv2 := [(4, .int x1), (0, .ref (w.1 159)), (1, .int x1), (2, .int x2), (3, .int x3)]) dX8_rolls_1 (by decide) rfl ?_
  refine jr_aload_n X.c dX8_rolls_3 rfl 1 rfl ?_
  refine jr_get X.c (ci := 8) (C := RX8) (T := TX8) (N := 22) (k := 6) rfl cr_in8 (by decide) ((cr_row_159 w) _) rfl (by decide) fl_X8_22 dX8_rolls_4 ?_
  refine jr_iload_n X.c dX8_rolls_7 rfl 3 rfl ?_
  obtain ⟨hi8, h⟩ := cr_gd_s h
  refine jr_iald X.c (by decide) ((cr_row_164 w) _) hi8 dX8_rolls_8 ?_
  obtain ⟨n9, en9, h⟩ := cr_lt_s h
  refine jr_top en9 ?_
  refine jr_istore X.c (lv2 := [(5, .int n9), (4, .int x1), (0, .ref (w.1 159)), (1, .int x1), (2, .int x2), (3, .int x3)]) dX8_rolls_9 (by decide) rfl ?_
  refine jr_aload_n X.c dX8_rolls_11 rfl 2 rfl ?_
  refine jr_get X.c (ci := 8) (C := RX8) (T := TX8) (N := 22) (k := 7) rfl cr_in8 (by decide) ((cr_row_159 w) _) rfl (by decide) fl_X8_25 dX8_rolls_12 ?_
  refine jr_iload_n X.c dX8_rolls_15 rfl 4 rfl ?_
  obtain ⟨hi16, h⟩ := cr_gd_s h
  refine jr_iald X.c (by decide) ((cr_row_165 w) _) hi16 dX8_rolls_16 ?_
  obtain ⟨n17, en17, h⟩ := cr_lt_s h
  refine jr_top en17 ?_
  refine jr_istore X.c (lv2 := [(6, .int n17), (5, .int n9), (4, .int x1), (0, .ref (w.1 159)), (1, .int x1), (2, .int x2), (3, .int x3)]) dX8_rolls_17 (by decide) rfl ?_
  refine jr_iload_n X.c dX8_rolls_19 rfl 6 rfl ?_
  refine jr_istore X.c (lv2 := [(7, .int x3), (6, .int n17), (5, .int n9), (4, .int x1), (0, .ref (w.1 159)), (1, .int x1), (2, .int x2), (3, .int x3)]) dX8_rolls_20 (by decide) rfl ?_
  refine jr_iconst X.c (v := (0 : Int32)) dX8_rolls_22 (by decide) ?_
  refine jr_istore X.c (lv2 := [(8, .int (0 : Int32)), (7, .int x3), (6, .int n17), (5, .int n9), (4, .int x1), (0, .ref (w.1 159)), (1, .int x1), (2, .int x2), (3, .int x3)]) dX8_rolls_23 (by decide) rfl ?_
  refine jr_aload_n X.c dX8_rolls_25 rfl 5 rfl ?_
  refine jr_iconst X.c (v := (0 : Int32)) dX8_rolls_26 (by decide) ?_
  obtain ⟨V27, eV27, h⟩ := cr_lt_s h
  refine jr_put X.c (ci := 8) (C := RX8) (T := TX8) (N := 22) (k := 9) rfl cr_in8 tyX8 tyX8_ok nmX8 (by decide) (cr_row_159 w) rfl (Nat.le_of_ble_eq_true rfl) (by decide) rfl rfl rfl fl_X8_60 dX8_rolls_27 eV27 ?_
  obtain ⟨e30, he30, h⟩ := cr_bd_s h
  have kx277 : ∀ (u4_30_277 : Int32) (V_e30_277 : cr_Hp), e30 = (u4_30_277, V_e30_277) → cr_J w 12 p l e rm_X8_rolls s m args below meth c 0 0 (MQ below (cr_Qv w x) args s 0 0 (cr_A w)) V_e30_277 277 [(0, .ref (w.1 159)), (4, .int u4_30_277)] [] := by
    intro u4_30_277 V_e30_277 qx
    rw [qx] at h
    try simp only [cr_sm, cr_u2, cr_u3, cr_u4, cr_u5, cr_u6] at h
    refine jr_aload_n X.c dX8_rolls_277 rfl 0 rfl ?_
    refine jr_iload X.c dX8_rolls_278 1 rfl ?_
    obtain ⟨V280, eV280, h⟩ := cr_lt_s h
    refine jr_put X.c (ci := 8) (C := RX8) (T := TX8) (N := 22) (k := 10) rfl cr_in8 tyX8 tyX8_ok nmX8 (by decide) (cr_row_159 w) rfl (Nat.le_of_ble_eq_true rfl) (by decide) rfl rfl rfl fl_X8_77 dX8_rolls_280 eV280 ?_
    refine jr_aload_n X.c dX8_rolls_283 rfl 0 rfl ?_
    refine jr_aload_n X.c dX8_rolls_284 rfl 0 rfl ?_
    refine jr_iload X.c dX8_rolls_285 1 rfl ?_
    refine jr_iconst X.c (v := (0 : Int32)) dX8_rolls_287 (by decide) ?_
    obtain ⟨r288, hr288, h⟩ := cr_bd_s h
    refine jc_Vi X.c (As := [.int u4_30_277, .int (0 : Int32)]) (V1 := V280) (C := RX8) (T := TX8) (N := 22) (ci := 8) 2 (m_X8_part l w V280 u4_30_277 (0 : Int32)  r288 hr288) ⟨rfl, rfl⟩ ml_X8_43 im_X8_part sl_X8_part in_X8 cd_X8_part hd_X8_part ⟨Nat.le_of_ble_eq_true rfl, Nat.le_of_ble_eq_true rfl⟩ ⟨Nat.le_of_ble_eq_true rfl, Nat.le_of_ble_eq_true rfl⟩ rfl (Nat.le_of_ble_eq_true rfl) (by decide) ((cr_row_159 w) _) rfl rfl dX8_rolls_288 ?_
    obtain ⟨V291, eV291, h⟩ := cr_lt_s h
    refine jr_put X.c (ci := 8) (C := RX8) (T := TX8) (N := 22) (k := 11) rfl cr_in8 tyX8 tyX8_ok nmX8 (by decide) (cr_row_159 w) rfl (Nat.le_of_ble_eq_true rfl) (by decide) rfl rfl rfl fl_X8_80 dX8_rolls_291 eV291 ?_
    refine jr_aload_n X.c dX8_rolls_294 rfl 0 rfl ?_
    refine jr_aload_n X.c dX8_rolls_295 rfl 0 rfl ?_
    refine jr_iload X.c dX8_rolls_296 1 rfl ?_
    refine jr_iconst X.c (v := (1 : Int32)) dX8_rolls_298 (by decide) ?_
    obtain ⟨r299, hr299, h⟩ := cr_bd_s h
    refine jc_Vi X.c (As := [.int u4_30_277, .int (1 : Int32)]) (V1 := V291) (C := RX8) (T := TX8) (N := 22) (ci := 8) 2 (m_X8_part l w V291 u4_30_277 (1 : Int32)  r299 hr299) ⟨rfl, rfl⟩ ml_X8_43 im_X8_part sl_X8_part in_X8 cd_X8_part hd_X8_part ⟨Nat.le_of_ble_eq_true rfl, Nat.le_of_ble_eq_true rfl⟩ ⟨Nat.le_of_ble_eq_true rfl, Nat.le_of_ble_eq_true rfl⟩ rfl (Nat.le_of_ble_eq_true rfl) (by decide) ((cr_row_159 w) _) rfl rfl dX8_rolls_299 ?_
    obtain ⟨V302, eV302, h⟩ := cr_lt_s h
    refine jr_put X.c (ci := 8) (C := RX8) (T := TX8) (N := 22) (k := 12) rfl cr_in8 tyX8 tyX8_ok nmX8 (by decide) (cr_row_159 w) rfl (Nat.le_of_ble_eq_true rfl) (by decide) rfl rfl rfl fl_X8_83 dX8_rolls_302 eV302 ?_
    cases h
    exact jr_vret X.c hr0 dX8_rolls_305
  refine jr_sub [5, 4, 3, 2, 1, 0] rfl ?_
  refine cr_it_W (f := (fun (q : Int32 × Int32 × Int32 × Int32 × Int32 × cr_Hp) => f_X8_rolls_l30  q.1 q.2.1 q.2.2.1 q.2.2.2.1 q.2.2.2.2.1 q.2.2.2.2.2)) (P := fun (q : Int32 × Int32 × Int32 × Int32 × Int32 × cr_Hp) => cr_J w 12 p l e rm_X8_rolls s m args below meth c 0 0 (MQ below (cr_Qv w x) args s 0 0 (cr_A w)) q.2.2.2.2.2 30 [(0, .ref (w.1 159)), (4, .int q.1), (5, .int q.2.1), (6, .int q.2.2.1), (7, .int q.2.2.2.1), (8, .int q.2.2.2.2.1)] []) (K := fun z => z = e30) (fun q x hx kl kr => ?_) cr_FU (x1, n9, n17, x3, (0 : Int32), V27) e30 he30 rfl
  obtain ⟨x4_30, x5_30, x6_30, x7_30, x8_30, V_l30⟩ := q
  exact t_X8_rolls_l30 X x4_30 x5_30 x6_30 x7_30 x8_30 V_l30  x hx (fun x4_30 x5_30 x6_30 x7_30 x8_30 V_l30 ez => kl _ ez) (fun u4_30_277 V_e30_277 ez => kx277 u4_30_277 V_e30_277 ((kr _ ez).symm))
set_option maxRecDepth 100000 in
set_option maxHeartbeats 4000000 in
theorem m_X8_rolls (l : Launch) (w : cr_Wd) (V : cr_Hp) (x1 : Int32) (x2 : Int32) (x3 : Int32)  (x : cr_Hp) (h : f_X8_rolls x1 x2 x3 V = some x) : Met l yX8_rolls (cr_wds yX8_rolls cX8_rolls 12 none) rm_X8_rolls (cr_Pc w V [.ref (w.1 159), .int x1, .int x2, .int x3]) (cr_Qv w x) 0 0 (cr_A w) := by
  refine cr_met (own := RX8) (lv := [(0, .ref (w.1 159)), (1, .int x1), (2, .int x2), (3, .int x3)]) (by decide +kernel) rfl (Nat.le_of_ble_eq_true rfl) rfl (fun p e s m args below meth c X hr0 => ?_)
  exact t_X8_rolls X x1 x2 x3 V  hr0 x h
