abbrev rm_X8_whyNotPut : Room := { frames := 3, cells := 0, slots := 0, locals := 67 }
theorem hd_X8_whyNotPut : yX8_whyNotPut.cls = RX8 ∧ yX8_whyNotPut.cls ≠ "java/lang/invoke/MethodHandle" ∧ yX8_whyNotPut.cls ≠ "java/lang/invoke/VarHandle" ∧ (parseMethodDescriptor yX8_whyNotPut.desc).map (fun d => d.parameters.length) = some 4 := by decide +kernel
def f_X8_whyNotPut (x1 : Int32) (x2 : Int32) (x3 : Int32) (x4 : Int32) (V : cr_Hp) : Option (Int32) :=
  cr_bd (f_X8_isPoint x1 x2) (fun (r2 : Int32) => if r2 = 0 then (some (-1001 : Int32)) else (cr_bd (f_X8_within x4 (0 : Int32) (2 : Int32)) (fun (r12 : Int32) => if r12 = 0 then (some (-1001 : Int32)) else (cr_bd (f_X8_within x3 (1 : Int32) (3 : Int32)) (fun (r25 : Int32) => if r25 = 0 then (some (-1002 : Int32)) else (cr_bd (f_X8_marbleAt x1 x2 V) (fun (r38 : Int32) => if r38 = (-1006 : Int32) then (cr_gd (cr_ix (0 : Int32) 80) (if (V 160 (0 : Int32).toNatClampNeg) = (12 : Int32) then (some (-1004 : Int32)) else (some (0 : Int32)))) else (some (-1003 : Int32)))))))))
set_option maxRecDepth 100000 in
set_option maxHeartbeats 4000000 in
theorem t_X8_whyNotPut {p : Program} {l : Launch} {e : Env} {s : State} {m : MethodId} {args : Array Value} {below : List Frame} {meth : Method} {c : Code} {w : cr_Wd} (X : cr_Cx w RX8 (Cond.code yX8_whyNotPut cX8_whyNotPut 5 (some .int)) cX8_whyNotPut 5 p s m args meth c) (x1 : Int32) (x2 : Int32) (x3 : Int32) (x4 : Int32) (V : cr_Hp)  (hr0 : meth.sig.returnType = (some .int)) (x : Int32) (h : f_X8_whyNotPut x1 x2 x3 x4 V = some x) : cr_J w 5 p l e rm_X8_whyNotPut s m args below meth c 0 0 (MQ below (cr_Qi w V x) args s 0 0 (cr_A w)) V 0 [(0, .ref (w.1 159)), (1, .int x1), (2, .int x2), (3, .int x3), (4, .int x4)] [] := by
  unfold f_X8_whyNotPut at h
  refine jr_iload_n X.c dX8_whyNotPut_0 rfl 1 rfl ?_
  refine jr_iload_n X.c dX8_whyNotPut_1 rfl 2 rfl ?_
  obtain ⟨r2, hr2, h⟩ := cr_bd_s h
  refine jc_Si X.c (As := [.int x1, .int x2]) (V1 := V) 2 (m_X8_isPoint l w V x1 x2  r2 hr2) ⟨rfl, rfl⟩ ml_X8_112 st_X8_isPoint in_X8 cd_X8_isPoint hd_X8_isPoint ⟨Nat.le_of_ble_eq_true rfl, Nat.le_of_ble_eq_true rfl⟩ ⟨Nat.le_of_ble_eq_true rfl, Nat.le_of_ble_eq_true rfl⟩ rfl (Nat.le_of_ble_eq_true rfl) rfl dX8_whyNotPut_2 ?_
  refine jr_if_eq X.c 18 dX8_whyNotPut_5 (by decide) (fun q5 => ?_) (fun q5 => ?_)
  · replace h := cr_if_t q5 h
    refine jr_sipush X.c (v := (-1001 : Int32)) dX8_whyNotPut_18 (by decide) ?_
    cases h
    exact jr_iret X.c hr0 dX8_whyNotPut_21
  · replace h := cr_if_f q5 h
    refine jr_iload X.c dX8_whyNotPut_8 4 rfl ?_
    refine jr_iconst X.c (v := (0 : Int32)) dX8_whyNotPut_10 (by decide) ?_
    refine jr_iconst X.c (v := (2 : Int32)) dX8_whyNotPut_11 (by decide) ?_
    obtain ⟨r12, hr12, h⟩ := cr_bd_s h
    refine jc_Si X.c (As := [.int x4, .int (0 : Int32), .int (2 : Int32)]) (V1 := V) 3 (m_X8_within l w V x4 (0 : Int32) (2 : Int32)  r12 hr12) ⟨rfl, rfl⟩ ml_X8_39 st_X8_within in_X8 cd_X8_within hd_X8_within ⟨Nat.le_of_ble_eq_true rfl, Nat.le_of_ble_eq_true rfl⟩ ⟨Nat.le_of_ble_eq_true rfl, Nat.le_of_ble_eq_true rfl⟩ rfl (Nat.le_of_ble_eq_true rfl) rfl dX8_whyNotPut_12 ?_
    refine jr_if_ne X.c 22 dX8_whyNotPut_15 (by decide) (fun q15 => ?_) (fun q15 => ?_)
    · replace h := cr_if_f q15 h
      refine jr_iload_n X.c dX8_whyNotPut_22 rfl 3 rfl ?_
      refine jr_iconst X.c (v := (1 : Int32)) dX8_whyNotPut_23 (by decide) ?_
      refine jr_iconst X.c (v := (3 : Int32)) dX8_whyNotPut_24 (by decide) ?_
      obtain ⟨r25, hr25, h⟩ := cr_bd_s h
      refine jc_Si X.c (As := [.int x3, .int (1 : Int32), .int (3 : Int32)]) (V1 := V) 3 (m_X8_within l w V x3 (1 : Int32) (3 : Int32)  r25 hr25) ⟨rfl, rfl⟩ ml_X8_39 st_X8_within in_X8 cd_X8_within hd_X8_within ⟨Nat.le_of_ble_eq_true rfl, Nat.le_of_ble_eq_true rfl⟩ ⟨Nat.le_of_ble_eq_true rfl, Nat.le_of_ble_eq_true rfl⟩ rfl (Nat.le_of_ble_eq_true rfl) rfl dX8_whyNotPut_25 ?_
      refine jr_if_ne X.c 35 dX8_whyNotPut_28 (by decide) (fun q28 => ?_) (fun q28 => ?_)
      · replace h := cr_if_f q28 h
        refine jr_aload_n X.c dX8_whyNotPut_35 rfl 0 rfl ?_
        refine jr_iload_n X.c dX8_whyNotPut_36 rfl 1 rfl ?_
        refine jr_iload_n X.c dX8_whyNotPut_37 rfl 2 rfl ?_
        obtain ⟨r38, hr38, h⟩ := cr_bd_s h
        refine jc_Vi X.c (As := [.int x1, .int x2]) (V1 := V) (C := RX8) (T := TX8) (N := 22) (ci := 8) 2 (m_X8_marbleAt l w V x1 x2  r38 hr38) ⟨rfl, rfl⟩ ml_X8_63 im_X8_marbleAt sl_X8_marbleAt in_X8 cd_X8_marbleAt hd_X8_marbleAt ⟨Nat.le_of_ble_eq_true rfl, Nat.le_of_ble_eq_true rfl⟩ ⟨Nat.le_of_ble_eq_true rfl, Nat.le_of_ble_eq_true rfl⟩ rfl (Nat.le_of_ble_eq_true rfl) (by decide) ((cr_row_159 w) _) rfl rfl dX8_whyNotPut_38 ?_
        refine jr_sipush X.c (v := (-1006 : Int32)) dX8_whyNotPut_41 (by decide) ?_
        refine jr_icmp_eq X.c 53 dX8_whyNotPut_44 (by decide) (fun q44 => ?_) (fun q44 => ?_)
        · replace h := cr_if_t q44 h
          refine jr_aload_n X.c dX8_whyNotPut_53 rfl 0 rfl ?_
          refine jr_get X.c (ci := 8) (C := RX8) (T := TX8) (N := 22) (k := 0) rfl cr_in8 (by decide) ((cr_row_159 w) _) rfl (by decide) fl_X8_7 dX8_whyNotPut_54 ?_
          refine jr_iconst X.c (v := (0 : Int32)) dX8_whyNotPut_57 (by decide) ?_
          obtain ⟨hi58, h⟩ := cr_gd_s h
          refine jr_iald X.c (by decide) ((cr_row_160 w) _) hi58 dX8_whyNotPut_58 ?_
          refine jr_bipush X.c (v := (12 : Int32)) dX8_whyNotPut_59 (by decide) ?_
          refine jr_icmp_ne X.c 70 dX8_whyNotPut_61 (by decide) (fun q61 => ?_) (fun q61 => ?_)
          · replace h := cr_if_f q61 h
            refine jr_iconst X.c (v := (0 : Int32)) dX8_whyNotPut_70 (by decide) ?_
            cases h
            exact jr_iret X.c hr0 dX8_whyNotPut_71
          · replace h := cr_if_t q61 h
            refine jr_sipush X.c (v := (-1004 : Int32)) dX8_whyNotPut_64 (by decide) ?_
            refine jr_goto X.c 71 dX8_whyNotPut_67 (by decide) ?_
            cases h
            exact jr_iret X.c hr0 dX8_whyNotPut_71
        · replace h := cr_if_f q44 h
          refine jr_sipush X.c (v := (-1003 : Int32)) dX8_whyNotPut_47 (by decide) ?_
          refine jr_goto X.c 71 dX8_whyNotPut_50 (by decide) ?_
          cases h
          exact jr_iret X.c hr0 dX8_whyNotPut_71
      · replace h := cr_if_t q28 h
        refine jr_sipush X.c (v := (-1002 : Int32)) dX8_whyNotPut_31 (by decide) ?_
        cases h
        exact jr_iret X.c hr0 dX8_whyNotPut_34
    · replace h := cr_if_t q15 h
      refine jr_sipush X.c (v := (-1001 : Int32)) dX8_whyNotPut_18 (by decide) ?_
      cases h
      exact jr_iret X.c hr0 dX8_whyNotPut_21
set_option maxRecDepth 100000 in
set_option maxHeartbeats 4000000 in
theorem m_X8_whyNotPut (l : Launch) (w : cr_Wd) (V : cr_Hp) (x1 : Int32) (x2 : Int32) (x3 : Int32) (x4 : Int32)  (x : Int32) (h : f_X8_whyNotPut x1 x2 x3 x4 V = some x) : Met l yX8_whyNotPut (cr_wds yX8_whyNotPut cX8_whyNotPut 5 (some .int)) rm_X8_whyNotPut (cr_Pc w V [.ref (w.1 159), .int x1, .int x2, .int x3, .int x4]) (cr_Qi w V x) 0 0 (cr_A w) := by
  refine cr_met (own := RX8) (lv := [(0, .ref (w.1 159)), (1, .int x1), (2, .int x2), (3, .int x3), (4, .int x4)]) (by decide +kernel) rfl (Nat.le_of_ble_eq_true rfl) rfl (fun p e s m args below meth c X hr0 => ?_)
  exact t_X8_whyNotPut X x1 x2 x3 x4 V  hr0 x h
abbrev rm_X8_copies : Room := { frames := 0, cells := 0, slots := 0, locals := 0 }
theorem hd_X8_copies : yX8_copies.cls ≠ "java/lang/invoke/MethodHandle" ∧ yX8_copies.cls ≠ "java/lang/invoke/VarHandle" ∧ (parseMethodDescriptor yX8_copies.desc).map (fun d => d.parameters.length) = some 4 := by decide +kernel
def f_X8_copies_l3 (a0_ : Nat) (a2_ : Nat) (x1 : Int32) (x3 : Int32) (x4_3 : Int32) (V_l3 : cr_Hp) : Option ((Int32 × cr_Hp) ⊕ cr_Hp) :=
  if (80 : Int32) ≤ x4_3 then (some (.inr V_l3)) else (cr_gd (cr_ix (x1 + x4_3) (cr_len a0_)) (cr_gd (cr_ix (x3 + x4_3) (cr_len a2_)) (cr_lt (cr_pt V_l3 a2_ (x3 + x4_3).toNatClampNeg (V_l3 a0_ (x1 + x4_3).toNatClampNeg)) (fun (V21 : cr_Hp) => some (.inl ((x4_3 + (1 : Int32)), V21))))))
set_option maxRecDepth 100000 in
set_option maxHeartbeats 4000000 in
theorem t_X8_copies_l3 {p : Program} {l : Launch} {e : Env} {s : State} {m : MethodId} {args : Array Value} {below : List Frame} {meth : Method} {c : Code} {w : cr_Wd} {Q : State → Prop} (X : cr_Cx w RX8 (Cond.code yX8_copies cX8_copies 5 none) cX8_copies 5 p s m args meth c) (a0_ : Nat) (a2_ : Nat) (x1 : Int32) (x3 : Int32) (x4_3 : Int32) (V_l3 : cr_Hp) (ha0_ : cr_ia a0_) (ha2_ : cr_ia a2_) (x : (Int32 × cr_Hp) ⊕ cr_Hp) (h : f_X8_copies_l3 a0_ a2_ x1 x3 x4_3 V_l3 = some x) (kl : ∀ (x4_3 : Int32) (V_l3 : cr_Hp), x = .inl (x4_3, V_l3) → cr_J w 5 p l e rm_X8_copies s m args below meth c 0 0 Q V_l3 3 [(0, .ref (w.1 a0_)), (1, .int x1), (2, .ref (w.1 a2_)), (3, .int x3), (4, .int x4_3)] []) (kr28 : ∀ (V_e3_28 : cr_Hp), x = .inr V_e3_28 → cr_J w 5 p l e rm_X8_copies s m args below meth c 0 0 Q V_e3_28 28 [] []) : cr_J w 5 p l e rm_X8_copies s m args below meth c 0 0 Q V_l3 3 [(0, .ref (w.1 a0_)), (1, .int x1), (2, .ref (w.1 a2_)), (3, .int x3), (4, .int x4_3)] [] := by
  unfold f_X8_copies_l3 at h
  refine jr_iload X.c dX8_copies_3 4 rfl ?_
  refine jr_bipush X.c (v := (80 : Int32)) dX8_copies_5 (by decide) ?_
  refine jr_icmp_ge X.c 28 dX8_copies_7 (by decide) (fun q7 => ?_) (fun q7 => ?_)
  · replace h := cr_if_t q7 h
    cases h
    refine jr_sub [] rfl ?_
    exact kr28 V_l3 rfl
  · replace h := cr_if_f q7 h
    refine jr_aload_n X.c dX8_copies_10 rfl 2 rfl ?_
    refine jr_iload_n X.c dX8_copies_11 rfl 3 rfl ?_
    refine jr_iload X.c dX8_copies_12 4 rfl ?_
    refine jr_iadd X.c dX8_copies_14 ?_
    refine jr_aload_n X.c dX8_copies_15 rfl 0 rfl ?_
    refine jr_iload_n X.c dX8_copies_16 rfl 1 rfl ?_
    refine jr_iload X.c dX8_copies_17 4 rfl ?_
    refine jr_iadd X.c dX8_copies_19 ?_
    obtain ⟨hi20, h⟩ := cr_gd_s h
    refine jr_iald X.c (cr_l_ia ha0_) ((cr_row_ia w ha0_) _) hi20 dX8_copies_20 ?_
    obtain ⟨hi21, h⟩ := cr_gd_s h
    obtain ⟨V21, eV21, h⟩ := cr_lt_s h
    refine jr_iast X.c (cr_l_ia ha2_) (cr_row_ia w ha2_) hi21 dX8_copies_21 eV21 ?_
    refine jr_iinc X.c (v := (x4_3 + (1 : Int32))) (lv2 := [(4, .int (x4_3 + (1 : Int32))), (0, .ref (w.1 a0_)), (1, .int x1), (2, .ref (w.1 a2_)), (3, .int x3)]) dX8_copies_22 4 rfl (by rfl) (by decide) rfl ?_
    refine jr_goto X.c 3 dX8_copies_25 (by decide) ?_
    cases h
    refine jr_sub [1, 2, 3, 4, 0] rfl ?_
    exact kl (x4_3 + (1 : Int32)) V21 rfl
def f_X8_copies (a0_ : Nat) (a2_ : Nat) (x1 : Int32) (x3 : Int32) (V : cr_Hp) : Option (cr_Hp) :=
  cr_bd (cr_it (fun (q : Int32 × cr_Hp) => f_X8_copies_l3 a0_ a2_ x1 x3 q.1 q.2) cr_FU ((0 : Int32), V)) (fun (V_e3_28 : cr_Hp) => some V_e3_28)
set_option maxRecDepth 100000 in
set_option maxHeartbeats 4000000 in
theorem t_X8_copies {p : Program} {l : Launch} {e : Env} {s : State} {m : MethodId} {args : Array Value} {below : List Frame} {meth : Method} {c : Code} {w : cr_Wd} (X : cr_Cx w RX8 (Cond.code yX8_copies cX8_copies 5 none) cX8_copies 5 p s m args meth c) (a0_ : Nat) (a2_ : Nat) (x1 : Int32) (x3 : Int32) (V : cr_Hp) (ha0_ : cr_ia a0_) (ha2_ : cr_ia a2_) (hr0 : meth.sig.returnType = none) (x : cr_Hp) (h : f_X8_copies a0_ a2_ x1 x3 V = some x) : cr_J w 5 p l e rm_X8_copies s m args below meth c 0 0 (MQ below (cr_Qv w x) args s 0 0 (cr_A w)) V 0 [(0, .ref (w.1 a0_)), (1, .int x1), (2, .ref (w.1 a2_)), (3, .int x3)] [] := by
  unfold f_X8_copies at h
  refine jr_iconst X.c (v := (0 : Int32)) dX8_copies_0 (by decide) ?_
  refine jr_istore X.c (lv2 := [(4, .int (0 : Int32)), (0, .ref (w.1 a0_)), (1, .int x1), (2, .ref (w.1 a2_)), (3, .int x3)]) dX8_copies_1 (by decide) rfl ?_
  obtain ⟨e3, he3, h⟩ := cr_bd_s h
  have kx28 : ∀ (V_e3_28 : cr_Hp), e3 = V_e3_28 → cr_J w 5 p l e rm_X8_copies s m args below meth c 0 0 (MQ below (cr_Qv w x) args s 0 0 (cr_A w)) V_e3_28 28 [] [] := by
    intro V_e3_28 qx
    rw [qx] at h
    try simp only [cr_sm, cr_u2, cr_u3, cr_u4, cr_u5, cr_u6] at h
    cases h
    exact jr_vret X.c hr0 dX8_copies_28
  refine jr_sub [1, 2, 3, 4, 0] rfl ?_
  refine cr_it_W (f := (fun (q : Int32 × cr_Hp) => f_X8_copies_l3 a0_ a2_ x1 x3 q.1 q.2)) (P := fun (q : Int32 × cr_Hp) => cr_J w 5 p l e rm_X8_copies s m args below meth c 0 0 (MQ below (cr_Qv w x) args s 0 0 (cr_A w)) q.2 3 [(0, .ref (w.1 a0_)), (1, .int x1), (2, .ref (w.1 a2_)), (3, .int x3), (4, .int q.1)] []) (K := fun z => z = e3) (fun q x hx kl kr => ?_) cr_FU ((0 : Int32), V) e3 he3 rfl
  obtain ⟨x4_3, V_l3⟩ := q
  exact t_X8_copies_l3 X a0_ a2_ x1 x3 x4_3 V_l3 ha0_ ha2_ x hx (fun x4_3 V_l3 ez => kl _ ez) (fun V_e3_28 ez => kx28 V_e3_28 ((kr _ ez).symm))
set_option maxRecDepth 100000 in
set_option maxHeartbeats 4000000 in
theorem m_X8_copies (l : Launch) (w : cr_Wd) (V : cr_Hp) (a0_ : Nat) (a2_ : Nat) (x1 : Int32) (x3 : Int32) (ha0_ : cr_ia a0_) (ha2_ : cr_ia a2_) (x : cr_Hp) (h : f_X8_copies a0_ a2_ x1 x3 V = some x) : Met l yX8_copies (cr_wds yX8_copies cX8_copies 5 none) rm_X8_copies (cr_Pc w V [.ref (w.1 a0_), .int x1, .ref (w.1 a2_), .int x3]) (cr_Qv w x) 0 0 (cr_A w) := by
  refine cr_met (own := RX8) (lv := [(0, .ref (w.1 a0_)), (1, .int x1), (2, .ref (w.1 a2_)), (3, .int x3)]) (by decide +kernel) rfl (Nat.le_of_ble_eq_true rfl) rfl (fun p e s m args below meth c X hr0 => ?_)
  exact t_X8_copies X a0_ a2_ x1 x3 V ha0_ ha2_ hr0 x h
abbrev rm_X8_record : Room := { frames := 1, cells := 0, slots := 0, locals := 24 }
theorem hd_X8_record : yX8_record.cls = RX8 ∧ yX8_record.cls ≠ "java/lang/invoke/MethodHandle" ∧ yX8_record.cls ≠ "java/lang/invoke/VarHandle" ∧ (parseMethodDescriptor yX8_record.desc).map (fun d => d.parameters.length) = some 0 := by decide +kernel
def f_X8_record_b49  (V_49 : cr_Hp) : Option (cr_Hp) :=
  cr_bd (f_X8_copies 160 162 (0 : Int32) ((V_49 159 3) * (80 : Int32)) V_49) (fun (V65 : cr_Hp) => cr_lt (cr_pt V65 159 3 ((V65 159 3) + (1 : Int32))) (fun (V75 : cr_Hp) => some V75))
set_option maxRecDepth 100000 in
set_option maxHeartbeats 4000000 in
theorem t_X8_record_b49 {p : Program} {l : Launch} {e : Env} {s : State} {m : MethodId} {args : Array Value} {below : List Frame} {meth : Method} {c : Code} {w : cr_Wd} (X : cr_Cx w RX8 (Cond.code yX8_record cX8_record 2 none) cX8_record 2 p s m args meth c)  (V_49 : cr_Hp)  (hr0 : meth.sig.returnType = none) (x : cr_Hp) (h : f_X8_record_b49  V_49 = some x) : cr_J w 2 p l e rm_X8_record s m args below meth c 0 0 (MQ below (cr_Qv w x) args s 0 0 (cr_A w)) V_49 49 [(0, .ref (w.1 159))] [] := by
  unfold f_X8_record_b49 at h
  refine jr_aload_n X.c dX8_record_49 rfl 0 rfl ?_
  refine jr_get X.c (ci := 8) (C := RX8) (T := TX8) (N := 22) (k := 0) rfl cr_in8 (by decide) ((cr_row_159 w) _) rfl (by decide) fl_X8_7 dX8_record_50 ?_
  refine jr_iconst X.c (v := (0 : Int32)) dX8_record_53 (by decide) ?_
  refine jr_aload_n X.c dX8_record_54 rfl 0 rfl ?_
  refine jr_get X.c (ci := 8) (C := RX8) (T := TX8) (N := 22) (k := 2) rfl cr_in8 (by decide) ((cr_row_159 w) _) rfl (by decide) fl_X8_16 dX8_record_55 ?_
  refine jr_aload_n X.c dX8_record_58 rfl 0 rfl ?_
  refine jr_get X.c (ci := 8) (C := RX8) (T := TX8) (N := 22) (k := 3) rfl cr_in8 (by decide) ((cr_row_159 w) _) rfl (by decide) fl_X8_31 dX8_record_59 ?_
  refine jr_bipush X.c (v := (80 : Int32)) dX8_record_62 (by decide) ?_
  refine jr_imul X.c dX8_record_64 ?_
  obtain ⟨V65, hr65, h⟩ := cr_bd_s h
  refine jc_Sv X.c (As := [.ref (w.1 160), .int (0 : Int32), .ref (w.1 162), .int ((V_49 159 3) * (80 : Int32))]) (V1 := V65) 4 (m_X8_copies l w V_49 160 162 (0 : Int32) ((V_49 159 3) * (80 : Int32)) (by decide) (by decide) V65 hr65) ⟨rfl, rfl⟩ ml_X8_35 st_X8_copies in_X8 cd_X8_copies hd_X8_copies ⟨Nat.le_of_ble_eq_true rfl, Nat.le_of_ble_eq_true rfl⟩ ⟨Nat.le_of_ble_eq_true rfl, Nat.le_of_ble_eq_true rfl⟩ rfl (Nat.le_of_ble_eq_true rfl) rfl dX8_record_65 ?_
  refine jr_aload_n X.c dX8_record_68 rfl 0 rfl ?_
  refine jr_dup X.c dX8_record_69 rfl ?_
  refine jr_get X.c (ci := 8) (C := RX8) (T := TX8) (N := 22) (k := 3) rfl cr_in8 (by decide) ((cr_row_159 w) _) rfl (by decide) fl_X8_31 dX8_record_70 ?_
  refine jr_iconst X.c (v := (1 : Int32)) dX8_record_73 (by decide) ?_
  refine jr_iadd X.c dX8_record_74 ?_
  obtain ⟨V75, eV75, h⟩ := cr_lt_s h
  refine jr_put X.c (ci := 8) (C := RX8) (T := TX8) (N := 22) (k := 3) rfl cr_in8 tyX8 tyX8_ok nmX8 (by decide) (cr_row_159 w) rfl (Nat.le_of_ble_eq_true rfl) (by decide) rfl rfl rfl fl_X8_31 dX8_record_75 eV75 ?_
  cases h
  exact jr_vret X.c hr0 dX8_record_78
def f_X8_record_l11 (x1_11 : Int32) (V_l11 : cr_Hp) : Option ((Int32 × cr_Hp) ⊕ cr_Hp) :=
  if (400 : Int32) ≤ x1_11 then (some (.inr V_l11)) else (cr_gd (cr_ix (x1_11 + (80 : Int32)) 480) (cr_gd (cr_ix x1_11 480) (cr_lt (cr_pt V_l11 162 x1_11.toNatClampNeg (V_l11 162 (x1_11 + (80 : Int32)).toNatClampNeg)) (fun (V32 : cr_Hp) => some (.inl ((x1_11 + (1 : Int32)), V32))))))
set_option maxRecDepth 100000 in
set_option maxHeartbeats 4000000 in
theorem t_X8_record_l11 {p : Program} {l : Launch} {e : Env} {s : State} {m : MethodId} {args : Array Value} {below : List Frame} {meth : Method} {c : Code} {w : cr_Wd} {Q : State → Prop} (X : cr_Cx w RX8 (Cond.code yX8_record cX8_record 2 none) cX8_record 2 p s m args meth c) (x1_11 : Int32) (V_l11 : cr_Hp)  (x : (Int32 × cr_Hp) ⊕ cr_Hp) (h : f_X8_record_l11 x1_11 V_l11 = some x) (kl : ∀ (x1_11 : Int32) (V_l11 : cr_Hp), x = .inl (x1_11, V_l11) → cr_J w 2 p l e rm_X8_record s m args below meth c 0 0 Q V_l11 11 [(0, .ref (w.1 159)), (1, .int x1_11)] []) (kr39 : ∀ (V_e11_39 : cr_Hp), x = .inr V_e11_39 → cr_J w 2 p l e rm_X8_record s m args below meth c 0 0 Q V_e11_39 39 [(0, .ref (w.1 159))] []) : cr_J w 2 p l e rm_X8_record s m args below meth c 0 0 Q V_l11 11 [(0, .ref (w.1 159)), (1, .int x1_11)] [] := by
  unfold f_X8_record_l11 at h
  refine jr_iload_n X.c dX8_record_11 rfl 1 rfl ?_
  refine jr_sipush X.c (v := (400 : Int32)) dX8_record_12 (by decide) ?_
  refine jr_icmp_ge X.c 39 dX8_record_15 (by decide) (fun q15 => ?_) (fun q15 => ?_)
  · replace h := cr_if_t q15 h
    cases h
    refine jr_sub [0] rfl ?_
    exact kr39 V_l11 rfl
  · replace h := cr_if_f q15 h
    refine jr_aload_n X.c dX8_record_18 rfl 0 rfl ?_
    refine jr_get X.c (ci := 8) (C := RX8) (T := TX8) (N := 22) (k := 2) rfl cr_in8 (by decide) ((cr_row_159 w) _) rfl (by decide) fl_X8_16 dX8_record_19 ?_
    refine jr_iload_n X.c dX8_record_22 rfl 1 rfl ?_
    refine jr_aload_n X.c dX8_record_23 rfl 0 rfl ?_
    refine jr_get X.c (ci := 8) (C := RX8) (T := TX8) (N := 22) (k := 2) rfl cr_in8 (by decide) ((cr_row_159 w) _) rfl (by decide) fl_X8_16 dX8_record_24 ?_
    refine jr_iload_n X.c dX8_record_27 rfl 1 rfl ?_
    refine jr_bipush X.c (v := (80 : Int32)) dX8_record_28 (by decide) ?_
    refine jr_iadd X.c dX8_record_30 ?_
    obtain ⟨hi31, h⟩ := cr_gd_s h
    refine jr_iald X.c (by decide) ((cr_row_162 w) _) hi31 dX8_record_31 ?_
    obtain ⟨hi32, h⟩ := cr_gd_s h
    obtain ⟨V32, eV32, h⟩ := cr_lt_s h
    refine jr_iast X.c (by decide) (cr_row_162 w) hi32 dX8_record_32 eV32 ?_
    refine jr_iinc X.c (v := (x1_11 + (1 : Int32))) (lv2 := [(1, .int (x1_11 + (1 : Int32))), (0, .ref (w.1 159))]) dX8_record_33 1 rfl (by rfl) (by decide) rfl ?_
    refine jr_goto X.c 11 dX8_record_36 (by decide) ?_
    cases h
    refine jr_sub [1, 0] rfl ?_
    exact kl (x1_11 + (1 : Int32)) V32 rfl
def f_X8_record  (V : cr_Hp) : Option (cr_Hp) :=
  if (V 159 3) = (6 : Int32) then (cr_bd (cr_it (fun (q : Int32 × cr_Hp) => f_X8_record_l11  q.1 q.2) cr_FU ((0 : Int32), V)) (fun (V_e11_39 : cr_Hp) => cr_lt (cr_pt V_e11_39 159 3 ((V_e11_39 159 3) - (1 : Int32))) (fun (V46 : cr_Hp) => f_X8_record_b49  V46))) else (f_X8_record_b49  V)
set_option maxRecDepth 100000 in
set_option maxHeartbeats 4000000 in
theorem t_X8_record {p : Program} {l : Launch} {e : Env} {s : State} {m : MethodId} {args : Array Value} {below : List Frame} {meth : Method} {c : Code} {w : cr_Wd} (X : cr_Cx w RX8 (Cond.code yX8_record cX8_record 2 none) cX8_record 2 p s m args meth c)  (V : cr_Hp)  (hr0 : meth.sig.returnType = none) (x : cr_Hp) (h : f_X8_record  V = some x) : cr_J w 2 p l e rm_X8_record s m args below meth c 0 0 (MQ below (cr_Qv w x) args s 0 0 (cr_A w)) V 0 [(0, .ref (w.1 159))] [] := by
  unfold f_X8_record at h
  refine jr_aload_n X.c dX8_record_0 rfl 0 rfl ?_
  refine jr_get X.c (ci := 8) (C := RX8) (T := TX8) (N := 22) (k := 3) rfl cr_in8 (by decide) ((cr_row_159 w) _) rfl (by decide) fl_X8_31 dX8_record_1 ?_
  refine jr_bipush X.c (v := (6 : Int32)) dX8_record_4 (by decide) ?_
  refine jr_icmp_ne X.c 49 dX8_record_6 (by decide) (fun q6 => ?_) (fun q6 => ?_)
  · replace h := cr_if_f q6 h
    refine jr_sub [0] rfl ?_
    exact t_X8_record_b49 X  V  hr0 x  h
  · replace h := cr_if_t q6 h
    refine jr_iconst X.c (v := (0 : Int32)) dX8_record_9 (by decide) ?_
    refine jr_istore_n X.c (lv2 := [(1, .int (0 : Int32)), (0, .ref (w.1 159))]) dX8_record_10 rfl (by decide) rfl ?_
    obtain ⟨e11, he11, h⟩ := cr_bd_s h
    have kx39 : ∀ (V_e11_39 : cr_Hp), e11 = V_e11_39 → cr_J w 2 p l e rm_X8_record s m args below meth c 0 0 (MQ below (cr_Qv w x) args s 0 0 (cr_A w)) V_e11_39 39 [(0, .ref (w.1 159))] [] := by
      intro V_e11_39 qx
      rw [qx] at h
      try simp only [cr_sm, cr_u2, cr_u3, cr_u4, cr_u5, cr_u6] at h
      refine jr_aload_n X.c dX8_record_39 rfl 0 rfl ?_
      refine jr_dup X.c dX8_record_40 rfl ?_
      refine jr_get X.c (ci := 8) (C := RX8) (T := TX8) (N := 22) (k := 3) rfl cr_in8 (by decide) ((cr_row_159 w) _) rfl (by decide) fl_X8_31 dX8_record_41 ?_
      refine jr_iconst X.c (v := (1 : Int32)) dX8_record_44 (by decide) ?_
      refine jr_isub X.c dX8_record_45 ?_
      obtain ⟨V46, eV46, h⟩ := cr_lt_s h
      refine jr_put X.c (ci := 8) (C := RX8) (T := TX8) (N := 22) (k := 3) rfl cr_in8 tyX8 tyX8_ok nmX8 (by decide) (cr_row_159 w) rfl (Nat.le_of_ble_eq_true rfl) (by decide) rfl rfl rfl fl_X8_31 dX8_record_46 eV46 ?_
      refine jr_sub [0] rfl ?_
      exact t_X8_record_b49 X  V46  hr0 x  h
    refine jr_sub [1, 0] rfl ?_
    refine cr_it_W (f := (fun (q : Int32 × cr_Hp) => f_X8_record_l11  q.1 q.2)) (P := fun (q : Int32 × cr_Hp) => cr_J w 2 p l e rm_X8_record s m args below meth c 0 0 (MQ below (cr_Qv w x) args s 0 0 (cr_A w)) q.2 11 [(0, .ref (w.1 159)), (1, .int q.1)] []) (K := fun z => z = e11) (fun q x hx kl kr => ?_) cr_FU ((0 : Int32), V) e11 he11 rfl
    obtain ⟨x1_11, V_l11⟩ := q
    exact t_X8_record_l11 X x1_11 V_l11  x hx (fun x1_11 V_l11 ez => kl _ ez) (fun V_e11_39 ez => kx39 V_e11_39 ((kr _ ez).symm))
set_option maxRecDepth 100000 in
set_option maxHeartbeats 4000000 in
theorem m_X8_record (l : Launch) (w : cr_Wd) (V : cr_Hp)   (x : cr_Hp) (h : f_X8_record  V = some x) : Met l yX8_record (cr_wds yX8_record cX8_record 2 none) rm_X8_record (cr_Pc w V [.ref (w.1 159)]) (cr_Qv w x) 0 0 (cr_A w) := by
  refine cr_met (own := RX8) (lv := [(0, .ref (w.1 159))]) (by decide +kernel) rfl (Nat.le_of_ble_eq_true rfl) rfl (fun p e s m args below meth c X hr0 => ?_)
  exact t_X8_record X  V  hr0 x h
abbrev rm_X8_setPart : Room := { frames := 0, cells := 0, slots := 0, locals := 0 }
theorem hd_X8_setPart : yX8_setPart.cls = RX8 ∧ yX8_setPart.cls ≠ "java/lang/invoke/MethodHandle" ∧ yX8_setPart.cls ≠ "java/lang/invoke/VarHandle" ∧ (parseMethodDescriptor yX8_setPart.desc).map (fun d => d.parameters.length) = some 3 := by decide +kernel
def f_X8_setPart (x1 : Int32) (x2 : Int32) (x3 : Int32) (V : cr_Hp) : Option (cr_Hp) :=
  cr_gd (cr_ix (((8 : Int32) + ((5 : Int32) * x1)) + x2) 80) (cr_lt (cr_pt V 160 (((8 : Int32) + ((5 : Int32) * x1)) + x2).toNatClampNeg x3) (fun (V13 : cr_Hp) => some V13))
set_option maxRecDepth 100000 in
set_option maxHeartbeats 4000000 in
theorem t_X8_setPart {p : Program} {l : Launch} {e : Env} {s : State} {m : MethodId} {args : Array Value} {below : List Frame} {meth : Method} {c : Code} {w : cr_Wd} (X : cr_Cx w RX8 (Cond.code yX8_setPart cX8_setPart 4 none) cX8_setPart 4 p s m args meth c) (x1 : Int32) (x2 : Int32) (x3 : Int32) (V : cr_Hp)  (hr0 : meth.sig.returnType = none) (x : cr_Hp) (h : f_X8_setPart x1 x2 x3 V = some x) : cr_J w 4 p l e rm_X8_setPart s m args below meth c 0 0 (MQ below (cr_Qv w x) args s 0 0 (cr_A w)) V 0 [(0, .ref (w.1 159)), (1, .int x1), (2, .int x2), (3, .int x3)] [] := by
  unfold f_X8_setPart at h
  refine jr_aload_n X.c dX8_setPart_0 rfl 0 rfl ?_
  refine jr_get X.c (ci := 8) (C := RX8) (T := TX8) (N := 22) (k := 0) rfl cr_in8 (by decide) ((cr_row_159 w) _) rfl (by decide) fl_X8_7 dX8_setPart_1 ?_
  refine jr_bipush X.c (v := (8 : Int32)) dX8_setPart_4 (by decide) ?_
  refine jr_iconst X.c (v := (5 : Int32)) dX8_setPart_6 (by decide) ?_
  refine jr_iload_n X.c dX8_setPart_7 rfl 1 rfl ?_
  refine jr_imul X.c dX8_setPart_8 ?_
  refine jr_iadd X.c dX8_setPart_9 ?_
  refine jr_iload_n X.c dX8_setPart_10 rfl 2 rfl ?_
  refine jr_iadd X.c dX8_setPart_11 ?_
  refine jr_iload_n X.c dX8_setPart_12 rfl 3 rfl ?_
  obtain ⟨hi13, h⟩ := cr_gd_s h
  obtain ⟨V13, eV13, h⟩ := cr_lt_s h
  refine jr_iast X.c (by decide) (cr_row_160 w) hi13 dX8_setPart_13 eV13 ?_
  cases h
  exact jr_vret X.c hr0 dX8_setPart_14
set_option maxRecDepth 100000 in
set_option maxHeartbeats 4000000 in
theorem m_X8_setPart (l : Launch) (w : cr_Wd) (V : cr_Hp) (x1 : Int32) (x2 : Int32) (x3 : Int32)  (x : cr_Hp) (h : f_X8_setPart x1 x2 x3 V = some x) : Met l yX8_setPart (cr_wds yX8_setPart cX8_setPart 4 none) rm_X8_setPart (cr_Pc w V [.ref (w.1 159), .int x1, .int x2, .int x3]) (cr_Qv w x) 0 0 (cr_A w) := by
  refine cr_met (own := RX8) (lv := [(0, .ref (w.1 159)), (1, .int x1), (2, .int x2), (3, .int x3)]) (by decide +kernel) rfl (Nat.le_of_ble_eq_true rfl) rfl (fun p e s m args below meth c X hr0 => ?_)
  exact t_X8_setPart X x1 x2 x3 V  hr0 x h
abbrev rm_X8_puts : Room := { frames := 1, cells := 0, slots := 0, locals := 23 }
theorem hd_X8_puts : yX8_puts.cls = RX8 ∧ yX8_puts.cls ≠ "java/lang/invoke/MethodHandle" ∧ yX8_puts.cls ≠ "java/lang/invoke/VarHandle" ∧ (parseMethodDescriptor yX8_puts.desc).map (fun d => d.parameters.length) = some 4 := by decide +kernel
def f_X8_puts (x1 : Int32) (x2 : Int32) (x3 : Int32) (x4 : Int32) (V : cr_Hp) : Option (Int32 × cr_Hp) :=
  cr_gd (cr_ix (0 : Int32) 80) (cr_lt ((V 160 (0 : Int32).toNatClampNeg)) (fun (n6 : Int32) => cr_gd (cr_ix (0 : Int32) 80) (cr_gd (cr_ix (0 : Int32) 80) (cr_lt (cr_pt V 160 (0 : Int32).toNatClampNeg ((V 160 (0 : Int32).toNatClampNeg) + (1 : Int32))) (fun (V17 : cr_Hp) => cr_bd (f_X8_setPart n6 (0 : Int32) x1 V17) (fun (V23 : cr_Hp) => cr_bd (f_X8_setPart n6 (1 : Int32) x2 V23) (fun (V31 : cr_Hp) => cr_bd (f_X8_setPart n6 (2 : Int32) x3 V31) (fun (V39 : cr_Hp) => cr_bd (f_X8_setPart n6 (3 : Int32) x4 V39) (fun (V48 : cr_Hp) => cr_bd (f_X8_setPart n6 (4 : Int32) (-1006 : Int32) V48) (fun (V58 : cr_Hp) => some (n6, V58)))))))))))
set_option maxRecDepth 100000 in
set_option maxHeartbeats 4000000 in
theorem t_X8_puts {p : Program} {l : Launch} {e : Env} {s : State} {m : MethodId} {args : Array Value} {below : List Frame} {meth : Method} {c : Code} {w : cr_Wd} (X : cr_Cx w RX8 (Cond.code yX8_puts cX8_puts 6 (some .int)) cX8_puts 6 p s m args meth c) (x1 : Int32) (x2 : Int32) (x3 : Int32) (x4 : Int32) (V : cr_Hp)  (hr0 : meth.sig.returnType = (some .int)) (x : Int32 × cr_Hp) (h : f_X8_puts x1 x2 x3 x4 V = some x) : cr_J w 6 p l e rm_X8_puts s m args below meth c 0 0 (MQ below (cr_Qi w x.2 x.1) args s 0 0 (cr_A w)) V 0 [(0, .ref (w.1 159)), (1, .int x1), (2, .int x2), (3, .int x3), (4, .int x4)] [] := by
  unfold f_X8_puts at h
  refine jr_aload_n X.c dX8_puts_0 rfl 0 rfl ?_
  refine jr_get X.c (ci := 8) (C := RX8) (T := TX8) (N := 22) (k := 0) rfl cr_in8 (by decide) ((cr_row_159 w) _) rfl (by decide) fl_X8_7 dX8_puts_1 ?_
  refine jr_iconst X.c (v := (0 : Int32)) dX8_puts_4 (by decide) ?_
  obtain ⟨hi5, h⟩ := cr_gd_s h
  refine jr_iald X.c (by decide) ((cr_row_160 w) _) hi5 dX8_puts_5 ?_
  obtain ⟨n6, en6, h⟩ := cr_lt_s h
  refine jr_top en6 ?_
  refine jr_istore X.c (lv2 := [(5, .int n6), (0, .ref (w.1 159)), (1, .int x1), (2, .int x2), (3, .int x3), (4, .int x4)]) dX8_puts_6 (by decide) rfl ?_
  refine jr_aload_n X.c dX8_puts_8 rfl 1 rfl ?_
  refine jr_get X.c (ci := 8) (C := RX8) (T := TX8) (N := 22) (k := 0) rfl cr_in8 (by decide) ((cr_row_159 w) _) rfl (by decide) fl_X8_7 dX8_puts_9 ?_
  refine jr_iconst X.c (v := (0 : Int32)) dX8_puts_12 (by decide) ?_
  refine jr_dup2 X.c dX8_puts_13 rfl rfl ?_
  obtain ⟨hi14, h⟩ := cr_gd_s h
  refine jr_iald X.c (by decide) ((cr_row_160 w) _) hi14 dX8_puts_14 ?_
  refine jr_iconst X.c (v := (1 : Int32)) dX8_puts_15 (by decide) ?_
  refine jr_iadd X.c dX8_puts_16 ?_
  obtain ⟨hi17, h⟩ := cr_gd_s h
  obtain ⟨V17, eV17, h⟩ := cr_lt_s h
  refine jr_iast X.c (by decide) (cr_row_160 w) hi17 dX8_puts_17 eV17 ?_
  refine jr_aload_n X.c dX8_puts_18 rfl 1 rfl ?_
  refine jr_iload X.c dX8_puts_19 0 rfl ?_
  refine jr_iconst X.c (v := (0 : Int32)) dX8_puts_21 (by decide) ?_
  refine jr_iload_n X.c dX8_puts_22 rfl 2 rfl ?_
  obtain ⟨V23, hr23, h⟩ := cr_bd_s h
  refine jc_Vv X.c (As := [.int n6, .int (0 : Int32), .int x1]) (V1 := V23) (C := RX8) (T := TX8) (N := 22) (ci := 8) 3 (m_X8_setPart l w V17 n6 (0 : Int32) x1  V23 hr23) ⟨rfl, rfl⟩ ml_X8_73 im_X8_setPart sl_X8_setPart in_X8 cd_X8_setPart hd_X8_setPart ⟨Nat.le_of_ble_eq_true rfl, Nat.le_of_ble_eq_true rfl⟩ ⟨Nat.le_of_ble_eq_true rfl, Nat.le_of_ble_eq_true rfl⟩ rfl (Nat.le_of_ble_eq_true rfl) (by decide) ((cr_row_159 w) _) rfl rfl dX8_puts_23 ?_
  refine jr_aload_n X.c dX8_puts_26 rfl 1 rfl ?_
  refine jr_iload X.c dX8_puts_27 0 rfl ?_
  refine jr_iconst X.c (v := (1 : Int32)) dX8_puts_29 (by decide) ?_
  refine jr_iload_n X.c dX8_puts_30 rfl 3 rfl ?_
  obtain ⟨V31, hr31, h⟩ := cr_bd_s h
  refine jc_Vv X.c (As := [.int n6, .int (1 : Int32), .int x2]) (V1 := V31) (C := RX8) (T := TX8) (N := 22) (ci := 8) 3 (m_X8_setPart l w V23 n6 (1 : Int32) x2  V31 hr31) ⟨rfl, rfl⟩ ml_X8_73 im_X8_setPart sl_X8_setPart in_X8 cd_X8_setPart hd_X8_setPart ⟨Nat.le_of_ble_eq_true rfl, Nat.le_of_ble_eq_true rfl⟩ ⟨Nat.le_of_ble_eq_true rfl, Nat.le_of_ble_eq_true rfl⟩ rfl (Nat.le_of_ble_eq_true rfl) (by decide) ((cr_row_159 w) _) rfl rfl dX8_puts_31 ?_
  refine jr_aload_n X.c dX8_puts_34 rfl 1 rfl ?_
  refine jr_iload X.c dX8_puts_35 0 rfl ?_
  refine jr_iconst X.c (v := (2 : Int32)) dX8_puts_37 (by decide) ?_
  refine jr_iload_n X.c dX8_puts_38 rfl 4 rfl ?_
  obtain ⟨V39, hr39, h⟩ := cr_bd_s h
  refine jc_Vv X.c (As := [.int n6, .int (2 : Int32), .int x3]) (V1 := V39) (C := RX8) (T := TX8) (N := 22) (ci := 8) 3 (m_X8_setPart l w V31 n6 (2 : Int32) x3  V39 hr39) ⟨rfl, rfl⟩ ml_X8_73 im_X8_setPart sl_X8_setPart in_X8 cd_X8_setPart hd_X8_setPart ⟨Nat.le_of_ble_eq_true rfl, Nat.le_of_ble_eq_true rfl⟩ ⟨Nat.le_of_ble_eq_true rfl, Nat.le_of_ble_eq_true rfl⟩ rfl (Nat.le_of_ble_eq_true rfl) (by decide) ((cr_row_159 w) _) rfl rfl dX8_puts_39 ?_
  refine jr_aload_n X.c dX8_puts_42 rfl 1 rfl ?_
  refine jr_iload X.c dX8_puts_43 0 rfl ?_
  refine jr_iconst X.c (v := (3 : Int32)) dX8_puts_45 (by decide) ?_
  refine jr_iload X.c dX8_puts_46 5 rfl ?_
  obtain ⟨V48, hr48, h⟩ := cr_bd_s h
  refine jc_Vv X.c (As := [.int n6, .int (3 : Int32), .int x4]) (V1 := V48) (C := RX8) (T := TX8) (N := 22) (ci := 8) 3 (m_X8_setPart l w V39 n6 (3 : Int32) x4  V48 hr48) ⟨rfl, rfl⟩ ml_X8_73 im_X8_setPart sl_X8_setPart in_X8 cd_X8_setPart hd_X8_setPart ⟨Nat.le_of_ble_eq_true rfl, Nat.le_of_ble_eq_true rfl⟩ ⟨Nat.le_of_ble_eq_true rfl, Nat.le_of_ble_eq_true rfl⟩ rfl (Nat.le_of_ble_eq_true rfl) (by decide) ((cr_row_159 w) _) rfl rfl dX8_puts_48 ?_
  refine jr_aload_n X.c dX8_puts_51 rfl 1 rfl ?_
  refine jr_iload X.c dX8_puts_52 0 rfl ?_
  refine jr_iconst X.c (v := (4 : Int32)) dX8_puts_54 (by decide) ?_
  refine jr_sipush X.c (v := (-1006 : Int32)) dX8_puts_55 (by decide) ?_
  obtain ⟨V58, hr58, h⟩ := cr_bd_s h
  refine jc_Vv X.c (As := [.int n6, .int (4 : Int32), .int (-1006 : Int32)]) (V1 := V58) (C := RX8) (T := TX8) (N := 22) (ci := 8) 3 (m_X8_setPart l w V48 n6 (4 : Int32) (-1006 : Int32)  V58 hr58) ⟨rfl, rfl⟩ ml_X8_73 im_X8_setPart sl_X8_setPart in_X8 cd_X8_setPart hd_X8_setPart ⟨Nat.le_of_ble_eq_true rfl, Nat.le_of_ble_eq_true rfl⟩ ⟨Nat.le_of_ble_eq_true rfl, Nat.le_of_ble_eq_true rfl⟩ rfl (Nat.le_of_ble_eq_true rfl) (by decide) ((cr_row_159 w) _) rfl rfl dX8_puts_58 ?_
  refine jr_iload X.c dX8_puts_61 0 rfl ?_
  cases h
  exact jr_iret X.c hr0 dX8_puts_63
set_option maxRecDepth 100000 in
set_option maxHeartbeats 4000000 in
theorem m_X8_puts (l : Launch) (w : cr_Wd) (V : cr_Hp) (x1 : Int32) (x2 : Int32) (x3 : Int32) (x4 : Int32)  (x : Int32 × cr_Hp) (h : f_X8_puts x1 x2 x3 x4 V = some x) : Met l yX8_puts (cr_wds yX8_puts cX8_puts 6 (some .int)) rm_X8_puts (cr_Pc w V [.ref (w.1 159), .int x1, .int x2, .int x3, .int x4]) (cr_Qi w x.2 x.1) 0 0 (cr_A w) := by
  refine cr_met (own := RX8) (lv := [(0, .ref (w.1 159)), (1, .int x1), (2, .int x2), (3, .int x3), (4, .int x4)]) (by decide +kernel) rfl (Nat.le_of_ble_eq_true rfl) rfl (fun p e s m args below meth c X hr0 => ?_)
  exact t_X8_puts X x1 x2 x3 x4 V  hr0 x h
abbrev rm_X8_putMarble : Room := { frames := 4, cells := 0, slots := 0, locals := 91 }
theorem hd_X8_putMarble : yX8_putMarble.cls = RX8 ∧ yX8_putMarble.cls ≠ "java/lang/invoke/MethodHandle" ∧ yX8_putMarble.cls ≠ "java/lang/invoke/VarHandle" ∧ (parseMethodDescriptor yX8_putMarble.desc).map (fun d => d.parameters.length) = some 4 := by decide +kernel
def f_X8_putMarble (x1 : Int32) (x2 : Int32) (x3 : Int32) (x4 : Int32) (V : cr_Hp) : Option (Int32 × cr_Hp) :=
  cr_bd (f_X8_whyNotPut x1 x2 x3 x4 V) (fun (r6 : Int32) => if 0 ≤ r6 then (cr_bd (f_X8_record  V) (fun (V20 : cr_Hp) => cr_b2 (f_X8_puts x1 x2 x3 x4 V20) (fun (r29 : Int32) (V29 : cr_Hp) => some (r29, V29)))) else (some (r6, V)))
set_option maxRecDepth 100000 in
set_option maxHeartbeats 4000000 in
theorem t_X8_putMarble {p : Program} {l : Launch} {e : Env} {s : State} {m : MethodId} {args : Array Value} {below : List Frame} {meth : Method} {c : Code} {w : cr_Wd} (X : cr_Cx w RX8 (Cond.code yX8_putMarble cX8_putMarble 6 (some .int)) cX8_putMarble 6 p s m args meth c) (x1 : Int32) (x2 : Int32) (x3 : Int32) (x4 : Int32) (V : cr_Hp)  (hr0 : meth.sig.returnType = (some .int)) (x : Int32 × cr_Hp) (h : f_X8_putMarble x1 x2 x3 x4 V = some x) : cr_J w 6 p l e rm_X8_putMarble s m args below meth c 0 0 (MQ below (cr_Qi w x.2 x.1) args s 0 0 (cr_A w)) V 0 [(0, .ref (w.1 159)), (1, .int x1), (2, .int x2), (3, .int x3), (4, .int x4)] [] := by
  unfold f_X8_putMarble at h
  refine jr_aload_n X.c dX8_putMarble_0 rfl 0 rfl ?_
  refine jr_iload_n X.c dX8_putMarble_1 rfl 1 rfl ?_
  refine jr_iload_n X.c dX8_putMarble_2 rfl 2 rfl ?_
  refine jr_iload_n X.c dX8_putMarble_3 rfl 3 rfl ?_
  refine jr_iload X.c dX8_putMarble_4 4 rfl ?_
  obtain ⟨r6, hr6, h⟩ := cr_bd_s h
  refine jc_Vi X.c (As := [.int x1, .int x2, .int x3, .int x4]) (V1 := V) (C := RX8) (T := TX8) (N := 22) (ci := 8) 4 (m_X8_whyNotPut l w V x1 x2 x3 x4  r6 hr6) ⟨rfl, rfl⟩ ml_X8_115 im_X8_whyNotPut sl_X8_whyNotPut in_X8 cd_X8_whyNotPut hd_X8_whyNotPut ⟨Nat.le_of_ble_eq_true rfl, Nat.le_of_ble_eq_true rfl⟩ ⟨Nat.le_of_ble_eq_true rfl, Nat.le_of_ble_eq_true rfl⟩ rfl (Nat.le_of_ble_eq_true rfl) (by decide) ((cr_row_159 w) _) rfl rfl dX8_putMarble_6 ?_
  refine jr_istore X.c (lv2 := [(5, .int r6), (0, .ref (w.1 159)), (1, .int x1), (2, .int x2), (3, .int x3), (4, .int x4)]) dX8_putMarble_9 (by decide) rfl ?_
  refine jr_iload X.c dX8_putMarble_11 0 rfl ?_
  refine jr_if_ge X.c 19 dX8_putMarble_13 (by decide) (fun q13 => ?_) (fun q13 => ?_)
  · replace h := cr_if_t q13 h
    refine jr_aload_n X.c dX8_putMarble_19 rfl 1 rfl ?_
    obtain ⟨V20, hr20, h⟩ := cr_bd_s h
    refine jc_Vv X.c (As := []) (V1 := V20) (C := RX8) (T := TX8) (N := 22) (ci := 8) 0 (m_X8_record l w V   V20 hr20) ⟨rfl, rfl⟩ ml_X8_102 im_X8_record sl_X8_record in_X8 cd_X8_record hd_X8_record ⟨Nat.le_of_ble_eq_true rfl, Nat.le_of_ble_eq_true rfl⟩ ⟨Nat.le_of_ble_eq_true rfl, Nat.le_of_ble_eq_true rfl⟩ rfl (Nat.le_of_ble_eq_true rfl) (by decide) ((cr_row_159 w) _) rfl rfl dX8_putMarble_20 ?_
    refine jr_aload_n X.c dX8_putMarble_23 rfl 1 rfl ?_
    refine jr_iload_n X.c dX8_putMarble_24 rfl 2 rfl ?_
    refine jr_iload_n X.c dX8_putMarble_25 rfl 3 rfl ?_
    refine jr_iload_n X.c dX8_putMarble_26 rfl 4 rfl ?_
    refine jr_iload X.c dX8_putMarble_27 5 rfl ?_
    obtain ⟨r29, V29, hr29, h⟩ := cr_b2_s h
    refine jc_Vi X.c (As := [.int x1, .int x2, .int x3, .int x4]) (V1 := V29) (C := RX8) (T := TX8) (N := 22) (ci := 8) 4 (m_X8_puts l w V20 x1 x2 x3 x4  (r29, V29) hr29) ⟨rfl, rfl⟩ ml_X8_119 im_X8_puts sl_X8_puts in_X8 cd_X8_puts hd_X8_puts ⟨Nat.le_of_ble_eq_true rfl, Nat.le_of_ble_eq_true rfl⟩ ⟨Nat.le_of_ble_eq_true rfl, Nat.le_of_ble_eq_true rfl⟩ rfl (Nat.le_of_ble_eq_true rfl) (by decide) ((cr_row_159 w) _) rfl rfl dX8_putMarble_29 ?_
    cases h
    exact jr_iret X.c hr0 dX8_putMarble_32
  · replace h := cr_if_f q13 h
    refine jr_iload X.c dX8_putMarble_16 0 rfl ?_
    cases h
    exact jr_iret X.c hr0 dX8_putMarble_18
set_option maxRecDepth 100000 in
set_option maxHeartbeats 4000000 in
theorem m_X8_putMarble (l : Launch) (w : cr_Wd) (V : cr_Hp) (x1 : Int32) (x2 : Int32) (x3 : Int32) (x4 : Int32)  (x : Int32 × cr_Hp) (h : f_X8_putMarble x1 x2 x3 x4 V = some x) : Met l yX8_putMarble (cr_wds yX8_putMarble cX8_putMarble 6 (some .int)) rm_X8_putMarble (cr_Pc w V [.ref (w.1 159), .int x1, .int x2, .int x3, .int x4]) (cr_Qi w x.2 x.1) 0 0 (cr_A w) := by
  refine cr_met (own := RX8) (lv := [(0, .ref (w.1 159)), (1, .int x1), (2, .int x2), (3, .int x3), (4, .int x4)]) (by decide +kernel) rfl (Nat.le_of_ble_eq_true rfl) rfl (fun p e s m args below meth c X hr0 => ?_)
  exact t_X8_putMarble X x1 x2 x3 x4 V  hr0 x h
abbrev rm_X8_whyNotDrawn : Room := { frames := 2, cells := 0, slots := 0, locals := 43 }
theorem hd_X8_whyNotDrawn : yX8_whyNotDrawn.cls = RX8 ∧ yX8_whyNotDrawn.cls ≠ "java/lang/invoke/MethodHandle" ∧ yX8_whyNotDrawn.cls ≠ "java/lang/invoke/VarHandle" ∧ (parseMethodDescriptor yX8_whyNotDrawn.desc).map (fun d => d.parameters.length) = some 3 := by decide +kernel
def f_X8_whyNotDrawn (x1 : Int32) (x2 : Int32) (x3 : Int32) (V : cr_Hp) : Option (Int32) :=
  cr_bd (f_X8_isPoint x1 x2) (fun (r2 : Int32) => if r2 = 0 then (some (-1001 : Int32)) else (cr_bd (f_X8_within x3 (1 : Int32) (15 : Int32)) (fun (r18 : Int32) => if r18 = 0 then (some (-1002 : Int32)) else (cr_gd (cr_ix (1 : Int32) 80) (if (V 160 (1 : Int32).toNatClampNeg) = (4 : Int32) then (some (-1004 : Int32)) else (some (0 : Int32)))))))
set_option maxRecDepth 100000 in
set_option maxHeartbeats 4000000 in
theorem t_X8_whyNotDrawn {p : Program} {l : Launch} {e : Env} {s : State} {m : MethodId} {args : Array Value} {below : List Frame} {meth : Method} {c : Code} {w : cr_Wd} (X : cr_Cx w RX8 (Cond.code yX8_whyNotDrawn cX8_whyNotDrawn 4 (some .int)) cX8_whyNotDrawn 4 p s m args meth c) (x1 : Int32) (x2 : Int32) (x3 : Int32) (V : cr_Hp)  (hr0 : meth.sig.returnType = (some .int)) (x : Int32) (h : f_X8_whyNotDrawn x1 x2 x3 V = some x) : cr_J w 4 p l e rm_X8_whyNotDrawn s m args below meth c 0 0 (MQ below (cr_Qi w V x) args s 0 0 (cr_A w)) V 0 [(0, .ref (w.1 159)), (1, .int x1), (2, .int x2), (3, .int x3)] [] := by
  unfold f_X8_whyNotDrawn at h
  refine jr_iload_n X.c dX8_whyNotDrawn_0 rfl 1 rfl ?_
  refine jr_iload_n X.c dX8_whyNotDrawn_1 rfl 2 rfl ?_
  obtain ⟨r2, hr2, h⟩ := cr_bd_s h
  refine jc_Si X.c (As := [.int x1, .int x2]) (V1 := V) 2 (m_X8_isPoint l w V x1 x2  r2 hr2) ⟨rfl, rfl⟩ ml_X8_112 st_X8_isPoint in_X8 cd_X8_isPoint hd_X8_isPoint ⟨Nat.le_of_ble_eq_true rfl, Nat.le_of_ble_eq_true rfl⟩ ⟨Nat.le_of_ble_eq_true rfl, Nat.le_of_ble_eq_true rfl⟩ rfl (Nat.le_of_ble_eq_true rfl) rfl dX8_whyNotDrawn_2 ?_
  refine jr_if_ne X.c 14 dX8_whyNotDrawn_5 (by decide) (fun q5 => ?_) (fun q5 => ?_)
  · replace h := cr_if_f q5 h
    refine jr_iload_n X.c dX8_whyNotDrawn_14 rfl 3 rfl ?_
    refine jr_iconst X.c (v := (1 : Int32)) dX8_whyNotDrawn_15 (by decide) ?_
    refine jr_bipush X.c (v := (15 : Int32)) dX8_whyNotDrawn_16 (by decide) ?_
    obtain ⟨r18, hr18, h⟩ := cr_bd_s h
    refine jc_Si X.c (As := [.int x3, .int (1 : Int32), .int (15 : Int32)]) (V1 := V) 3 (m_X8_within l w V x3 (1 : Int32) (15 : Int32)  r18 hr18) ⟨rfl, rfl⟩ ml_X8_39 st_X8_within in_X8 cd_X8_within hd_X8_within ⟨Nat.le_of_ble_eq_true rfl, Nat.le_of_ble_eq_true rfl⟩ ⟨Nat.le_of_ble_eq_true rfl, Nat.le_of_ble_eq_true rfl⟩ rfl (Nat.le_of_ble_eq_true rfl) rfl dX8_whyNotDrawn_18 ?_
    refine jr_if_ne X.c 30 dX8_whyNotDrawn_21 (by decide) (fun q21 => ?_) (fun q21 => ?_)
    · replace h := cr_if_f q21 h
      refine jr_aload_n X.c dX8_whyNotDrawn_30 rfl 0 rfl ?_
      refine jr_get X.c (ci := 8) (C := RX8) (T := TX8) (N := 22) (k := 0) rfl cr_in8 (by decide) ((cr_row_159 w) _) rfl (by decide) fl_X8_7 dX8_whyNotDrawn_31 ?_
      refine jr_iconst X.c (v := (1 : Int32)) dX8_whyNotDrawn_34 (by decide) ?_
      obtain ⟨hi35, h⟩ := cr_gd_s h
      refine jr_iald X.c (by decide) ((cr_row_160 w) _) hi35 dX8_whyNotDrawn_35 ?_
      refine jr_iconst X.c (v := (4 : Int32)) dX8_whyNotDrawn_36 (by decide) ?_
      refine jr_icmp_ne X.c 46 dX8_whyNotDrawn_37 (by decide) (fun q37 => ?_) (fun q37 => ?_)
      · replace h := cr_if_f q37 h
        refine jr_iconst X.c (v := (0 : Int32)) dX8_whyNotDrawn_46 (by decide) ?_
        cases h
        exact jr_iret X.c hr0 dX8_whyNotDrawn_47
      · replace h := cr_if_t q37 h
        refine jr_sipush X.c (v := (-1004 : Int32)) dX8_whyNotDrawn_40 (by decide) ?_
        refine jr_goto X.c 47 dX8_whyNotDrawn_43 (by decide) ?_
        cases h
        exact jr_iret X.c hr0 dX8_whyNotDrawn_47
    · replace h := cr_if_t q21 h
      refine jr_sipush X.c (v := (-1002 : Int32)) dX8_whyNotDrawn_24 (by decide) ?_
      refine jr_goto X.c 47 dX8_whyNotDrawn_27 (by decide) ?_
      cases h
      exact jr_iret X.c hr0 dX8_whyNotDrawn_47
  · replace h := cr_if_t q5 h
    refine jr_sipush X.c (v := (-1001 : Int32)) dX8_whyNotDrawn_8 (by decide) ?_
    refine jr_goto X.c 47 dX8_whyNotDrawn_11 (by decide) ?_
    cases h
    exact jr_iret X.c hr0 dX8_whyNotDrawn_47
set_option maxRecDepth 100000 in
set_option maxHeartbeats 4000000 in
theorem m_X8_whyNotDrawn (l : Launch) (w : cr_Wd) (V : cr_Hp) (x1 : Int32) (x2 : Int32) (x3 : Int32)  (x : Int32) (h : f_X8_whyNotDrawn x1 x2 x3 V = some x) : Met l yX8_whyNotDrawn (cr_wds yX8_whyNotDrawn cX8_whyNotDrawn 4 (some .int)) rm_X8_whyNotDrawn (cr_Pc w V [.ref (w.1 159), .int x1, .int x2, .int x3]) (cr_Qi w V x) 0 0 (cr_A w) := by
  refine cr_met (own := RX8) (lv := [(0, .ref (w.1 159)), (1, .int x1), (2, .int x2), (3, .int x3)]) (by decide +kernel) rfl (Nat.le_of_ble_eq_true rfl) rfl (fun p e s m args below meth c X hr0 => ?_)
  exact t_X8_whyNotDrawn X x1 x2 x3 V  hr0 x h
abbrev rm_X8_draws : Room := { frames := 0, cells := 0, slots := 0, locals := 0 }
theorem hd_X8_draws : yX8_draws.cls = RX8 ∧ yX8_draws.cls ≠ "java/lang/invoke/MethodHandle" ∧ yX8_draws.cls ≠ "java/lang/invoke/VarHandle" ∧ (parseMethodDescriptor yX8_draws.desc).map (fun d => d.parameters.length) = some 3 := by decide +kernel
def f_X8_draws (x1 : Int32) (x2 : Int32) (x3 : Int32) (V : cr_Hp) : Option (Int32 × cr_Hp) :=
  cr_gd (cr_ix (1 : Int32) 80) (cr_lt (((68 : Int32) + ((3 : Int32) * (V 160 (1 : Int32).toNatClampNeg)))) (fun (n11 : Int32) => cr_gd (cr_ix (n11 + (0 : Int32)) 80) (cr_lt (cr_pt V 160 (n11 + (0 : Int32)).toNatClampNeg x1) (fun (V22 : cr_Hp) => cr_gd (cr_ix (n11 + (1 : Int32)) 80) (cr_lt (cr_pt V22 160 (n11 + (1 : Int32)).toNatClampNeg x2) (fun (V32 : cr_Hp) => cr_gd (cr_ix (n11 + (2 : Int32)) 80) (cr_lt (cr_pt V32 160 (n11 + (2 : Int32)).toNatClampNeg x3) (fun (V42 : cr_Hp) => cr_gd (cr_ix (1 : Int32) 80) (cr_gd (cr_ix (1 : Int32) 80) (cr_lt (cr_pt V42 160 (1 : Int32).toNatClampNeg ((V42 160 (1 : Int32).toNatClampNeg) + (1 : Int32))) (fun (V52 : cr_Hp) => cr_gd (cr_ix (1 : Int32) 80) (some (((V52 160 (1 : Int32).toNatClampNeg) - (1 : Int32)), V52)))))))))))))
set_option maxRecDepth 100000 in
set_option maxHeartbeats 4000000 in
theorem t_X8_draws {p : Program} {l : Launch} {e : Env} {s : State} {m : MethodId} {args : Array Value} {below : List Frame} {meth : Method} {c : Code} {w : cr_Wd} (X : cr_Cx w RX8 (Cond.code yX8_draws cX8_draws 5 (some .int)) cX8_draws 5 p s m args meth c) (x1 : Int32) (x2 : Int32) (x3 : Int32) (V : cr_Hp)  (hr0 : meth.sig.returnType = (some .int)) (x : Int32 × cr_Hp) (h : f_X8_draws x1 x2 x3 V = some x) : cr_J w 5 p l e rm_X8_draws s m args below meth c 0 0 (MQ below (cr_Qi w x.2 x.1) args s 0 0 (cr_A w)) V 0 [(0, .ref (w.1 159)), (1, .int x1), (2, .int x2), (3, .int x3)] [] := by
  unfold f_X8_draws at h
  refine jr_bipush X.c (v := (68 : Int32)) dX8_draws_0 (by decide) ?_
  refine jr_iconst X.c (v := (3 : Int32)) dX8_draws_2 (by decide) ?_
  refine jr_aload_n X.c dX8_draws_3 rfl 0 rfl ?_
  refine jr_get X.c (ci := 8) (C := RX8) (T := TX8) (N := 22) (k := 0) rfl cr_in8 (by decide) ((cr_row_159 w) _) rfl (by decide) fl_X8_7 dX8_draws_4 ?_
  refine jr_iconst X.c (v := (1 : Int32)) dX8_draws_7 (by decide) ?_
  obtain ⟨hi8, h⟩ := cr_gd_s h
  refine jr_iald X.c (by decide) ((cr_row_160 w) _) hi8 dX8_draws_8 ?_
  refine jr_imul X.c dX8_draws_9 ?_
  refine jr_iadd X.c dX8_draws_10 ?_
  obtain ⟨n11, en11, h⟩ := cr_lt_s h
  refine jr_top en11 ?_
  refine jr_istore X.c (lv2 := [(4, .int n11), (0, .ref (w.1 159)), (1, .int x1), (2, .int x2), (3, .int x3)]) dX8_draws_11 (by decide) rfl ?_
  refine jr_aload_n X.c dX8_draws_13 rfl 1 rfl ?_
  refine jr_get X.c (ci := 8) (C := RX8) (T := TX8) (N := 22) (k := 0) rfl cr_in8 (by decide) ((cr_row_159 w) _) rfl (by decide) fl_X8_7 dX8_draws_14 ?_
  refine jr_iload X.c dX8_draws_17 0 rfl ?_
  refine jr_iconst X.c (v := (0 : Int32)) dX8_draws_19 (by decide) ?_
  refine jr_iadd X.c dX8_draws_20 ?_
  refine jr_iload_n X.c dX8_draws_21 rfl 2 rfl ?_
  obtain ⟨hi22, h⟩ := cr_gd_s h
  obtain ⟨V22, eV22, h⟩ := cr_lt_s h
  refine jr_iast X.c (by decide) (cr_row_160 w) hi22 dX8_draws_22 eV22 ?_
  refine jr_aload_n X.c dX8_draws_23 rfl 1 rfl ?_
  refine jr_get X.c (ci := 8) (C := RX8) (T := TX8) (N := 22) (k := 0) rfl cr_in8 (by decide) ((cr_row_159 w) _) rfl (by decide) fl_X8_7 dX8_draws_24 ?_
  refine jr_iload X.c dX8_draws_27 0 rfl ?_
  refine jr_iconst X.c (v := (1 : Int32)) dX8_draws_29 (by decide) ?_
  refine jr_iadd X.c dX8_draws_30 ?_
  refine jr_iload_n X.c dX8_draws_31 rfl 3 rfl ?_
  obtain ⟨hi32, h⟩ := cr_gd_s h
  obtain ⟨V32, eV32, h⟩ := cr_lt_s h
  refine jr_iast X.c (by decide) (cr_row_160 w) hi32 dX8_draws_32 eV32 ?_
  refine jr_aload_n X.c dX8_draws_33 rfl 1 rfl ?_
  refine jr_get X.c (ci := 8) (C := RX8) (T := TX8) (N := 22) (k := 0) rfl cr_in8 (by decide) ((cr_row_159 w) _) rfl (by decide) fl_X8_7 dX8_draws_34 ?_
  refine jr_iload X.c dX8_draws_37 0 rfl ?_
  refine jr_iconst X.c (v := (2 : Int32)) dX8_draws_39 (by decide) ?_
  refine jr_iadd X.c dX8_draws_40 ?_
  refine jr_iload_n X.c dX8_draws_41 rfl 4 rfl ?_
  obtain ⟨hi42, h⟩ := cr_gd_s h
  obtain ⟨V42, eV42, h⟩ := cr_lt_s h
  refine jr_iast X.c (by decide) (cr_row_160 w) hi42 dX8_draws_42 eV42 ?_
  refine jr_aload_n X.c dX8_draws_43 rfl 1 rfl ?_
  refine jr_get X.c (ci := 8) (C := RX8) (T := TX8) (N := 22) (k := 0) rfl cr_in8 (by decide) ((cr_row_159 w) _) rfl (by decide) fl_X8_7 dX8_draws_44 ?_
  refine jr_iconst X.c (v := (1 : Int32)) dX8_draws_47 (by decide) ?_
  refine jr_dup2 X.c dX8_draws_48 rfl rfl ?_
  obtain ⟨hi49, h⟩ := cr_gd_s h
  refine jr_iald X.c (by decide) ((cr_row_160 w) _) hi49 dX8_draws_49 ?_
  refine jr_iconst X.c (v := (1 : Int32)) dX8_draws_50 (by decide) ?_
  refine jr_iadd X.c dX8_draws_51 ?_
  obtain ⟨hi52, h⟩ := cr_gd_s h
  obtain ⟨V52, eV52, h⟩ := cr_lt_s h
  refine jr_iast X.c (by decide) (cr_row_160 w) hi52 dX8_draws_52 eV52 ?_
  refine jr_aload_n X.c dX8_draws_53 rfl 1 rfl ?_
  refine jr_get X.c (ci := 8) (C := RX8) (T := TX8) (N := 22) (k := 0) rfl cr_in8 (by decide) ((cr_row_159 w) _) rfl (by decide) fl_X8_7 dX8_draws_54 ?_
  refine jr_iconst X.c (v := (1 : Int32)) dX8_draws_57 (by decide) ?_
  obtain ⟨hi58, h⟩ := cr_gd_s h
  refine jr_iald X.c (by decide) ((cr_row_160 w) _) hi58 dX8_draws_58 ?_
  refine jr_iconst X.c (v := (1 : Int32)) dX8_draws_59 (by decide) ?_
  refine jr_isub X.c dX8_draws_60 ?_
  cases h
  exact jr_iret X.c hr0 dX8_draws_61
set_option maxRecDepth 100000 in
set_option maxHeartbeats 4000000 in
theorem m_X8_draws (l : Launch) (w : cr_Wd) (V : cr_Hp) (x1 : Int32) (x2 : Int32) (x3 : Int32)  (x : Int32 × cr_Hp) (h : f_X8_draws x1 x2 x3 V = some x) : Met l yX8_draws (cr_wds yX8_draws cX8_draws 5 (some .int)) rm_X8_draws (cr_Pc w V [.ref (w.1 159), .int x1, .int x2, .int x3]) (cr_Qi w x.2 x.1) 0 0 (cr_A w) := by
  refine cr_met (own := RX8) (lv := [(0, .ref (w.1 159)), (1, .int x1), (2, .int x2), (3, .int x3)]) (by decide +kernel) rfl (Nat.le_of_ble_eq_true rfl) rfl (fun p e s m args below meth c X hr0 => ?_)
  exact t_X8_draws X x1 x2 x3 V  hr0 x h
abbrev rm_X8_drawRing : Room := { frames := 3, cells := 0, slots := 0, locals := 66 }
theorem hd_X8_drawRing : yX8_drawRing.cls = RX8 ∧ yX8_drawRing.cls ≠ "java/lang/invoke/MethodHandle" ∧ yX8_drawRing.cls ≠ "java/lang/invoke/VarHandle" ∧ (parseMethodDescriptor yX8_drawRing.desc).map (fun d => d.parameters.length) = some 3 := by decide +kernel
def f_X8_drawRing (x1 : Int32) (x2 : Int32) (x3 : Int32) (V : cr_Hp) : Option (Int32 × cr_Hp) :=
  cr_bd (f_X8_whyNotDrawn x1 x2 x3 V) (fun (r4 : Int32) => if 0 ≤ r4 then (cr_bd (f_X8_record  V) (fun (V18 : cr_Hp) => cr_b2 (f_X8_draws x1 x2 x3 V18) (fun (r25 : Int32) (V25 : cr_Hp) => some (r25, V25)))) else (some (r4, V)))
set_option maxRecDepth 100000 in
set_option maxHeartbeats 4000000 in
theorem t_X8_drawRing {p : Program} {l : Launch} {e : Env} {s : State} {m : MethodId} {args : Array Value} {below : List Frame} {meth : Method} {c : Code} {w : cr_Wd} (X : cr_Cx w RX8 (Cond.code yX8_drawRing cX8_drawRing 5 (some .int)) cX8_drawRing 5 p s m args meth c) (x1 : Int32) (x2 : Int32) (x3 : Int32) (V : cr_Hp)  (hr0 : meth.sig.returnType = (some .int)) (x : Int32 × cr_Hp) (h : f_X8_drawRing x1 x2 x3 V = some x) : cr_J w 5 p l e rm_X8_drawRing s m args below meth c 0 0 (MQ below (cr_Qi w x.2 x.1) args s 0 0 (cr_A w)) V 0 [(0, .ref (w.1 159)), (1, .int x1), (2, .int x2), (3, .int x3)] [] := by
  unfold f_X8_drawRing at h
  refine jr_aload_n X.c dX8_drawRing_0 rfl 0 rfl ?_
  refine jr_iload_n X.c dX8_drawRing_1 rfl 1 rfl ?_
  refine jr_iload_n X.c dX8_drawRing_2 rfl 2 rfl ?_
  refine jr_iload_n X.c dX8_drawRing_3 rfl 3 rfl ?_
  obtain ⟨r4, hr4, h⟩ := cr_bd_s h
  refine jc_Vi X.c (As := [.int x1, .int x2, .int x3]) (V1 := V) (C := RX8) (T := TX8) (N := 22) (ci := 8) 3 (m_X8_whyNotDrawn l w V x1 x2 x3  r4 hr4) ⟨rfl, rfl⟩ ml_X8_122 im_X8_whyNotDrawn sl_X8_whyNotDrawn in_X8 cd_X8_whyNotDrawn hd_X8_whyNotDrawn ⟨Nat.le_of_ble_eq_true rfl, Nat.le_of_ble_eq_true rfl⟩ ⟨Nat.le_of_ble_eq_true rfl, Nat.le_of_ble_eq_true rfl⟩ rfl (Nat.le_of_ble_eq_true rfl) (by decide) ((cr_row_159 w) _) rfl rfl dX8_drawRing_4 ?_
  refine jr_istore X.c (lv2 := [(4, .int r4), (0, .ref (w.1 159)), (1, .int x1), (2, .int x2), (3, .int x3)]) dX8_drawRing_7 (by decide) rfl ?_
  refine jr_iload X.c dX8_drawRing_9 0 rfl ?_
  refine jr_if_ge X.c 17 dX8_drawRing_11 (by decide) (fun q11 => ?_) (fun q11 => ?_)
  · replace h := cr_if_t q11 h
    refine jr_aload_n X.c dX8_drawRing_17 rfl 1 rfl ?_
    obtain ⟨V18, hr18, h⟩ := cr_bd_s h
    refine jc_Vv X.c (As := []) (V1 := V18) (C := RX8) (T := TX8) (N := 22) (ci := 8) 0 (m_X8_record l w V   V18 hr18) ⟨rfl, rfl⟩ ml_X8_102 im_X8_record sl_X8_record in_X8 cd_X8_record hd_X8_record ⟨Nat.le_of_ble_eq_true rfl, Nat.le_of_ble_eq_true rfl⟩ ⟨Nat.le_of_ble_eq_true rfl, Nat.le_of_ble_eq_true rfl⟩ rfl (Nat.le_of_ble_eq_true rfl) (by decide) ((cr_row_159 w) _) rfl rfl dX8_drawRing_18 ?_
    refine jr_aload_n X.c dX8_drawRing_21 rfl 1 rfl ?_
    refine jr_iload_n X.c dX8_drawRing_22 rfl 2 rfl ?_
    refine jr_iload_n X.c dX8_drawRing_23 rfl 3 rfl ?_
    refine jr_iload_n X.c dX8_drawRing_24 rfl 4 rfl ?_
    obtain ⟨r25, V25, hr25, h⟩ := cr_b2_s h
    refine jc_Vi X.c (As := [.int x1, .int x2, .int x3]) (V1 := V25) (C := RX8) (T := TX8) (N := 22) (ci := 8) 3 (m_X8_draws l w V18 x1 x2 x3  (r25, V25) hr25) ⟨rfl, rfl⟩ ml_X8_126 im_X8_draws sl_X8_draws in_X8 cd_X8_draws hd_X8_draws ⟨Nat.le_of_ble_eq_true rfl, Nat.le_of_ble_eq_true rfl⟩ ⟨Nat.le_of_ble_eq_true rfl, Nat.le_of_ble_eq_true rfl⟩ rfl (Nat.le_of_ble_eq_true rfl) (by decide) ((cr_row_159 w) _) rfl rfl dX8_drawRing_25 ?_
    cases h
    exact jr_iret X.c hr0 dX8_drawRing_28
  · replace h := cr_if_f q11 h
    refine jr_iload X.c dX8_drawRing_14 0 rfl ?_
    cases h
    exact jr_iret X.c hr0 dX8_drawRing_16
set_option maxRecDepth 100000 in
set_option maxHeartbeats 4000000 in
theorem m_X8_drawRing (l : Launch) (w : cr_Wd) (V : cr_Hp) (x1 : Int32) (x2 : Int32) (x3 : Int32)  (x : Int32 × cr_Hp) (h : f_X8_drawRing x1 x2 x3 V = some x) : Met l yX8_drawRing (cr_wds yX8_drawRing cX8_drawRing 5 (some .int)) rm_X8_drawRing (cr_Pc w V [.ref (w.1 159), .int x1, .int x2, .int x3]) (cr_Qi w x.2 x.1) 0 0 (cr_A w) := by
  refine cr_met (own := RX8) (lv := [(0, .ref (w.1 159)), (1, .int x1), (2, .int x2), (3, .int x3)]) (by decide +kernel) rfl (Nat.le_of_ble_eq_true rfl) rfl (fun p e s m args below meth c X hr0 => ?_)
  exact t_X8_drawRing X x1 x2 x3 V  hr0 x h
abbrev rm_X8_isMarble : Room := { frames := 1, cells := 0, slots := 0, locals := 22 }
theorem hd_X8_isMarble : yX8_isMarble.cls = RX8 ∧ yX8_isMarble.cls ≠ "java/lang/invoke/MethodHandle" ∧ yX8_isMarble.cls ≠ "java/lang/invoke/VarHandle" ∧ (parseMethodDescriptor yX8_isMarble.desc).map (fun d => d.parameters.length) = some 1 := by decide +kernel
def f_X8_isMarble (x1 : Int32) (V : cr_Hp) : Option (Int32) :=
  cr_gd (cr_ix (0 : Int32) 80) (cr_bd (f_X8_within x1 (0 : Int32) ((V 160 (0 : Int32).toNatClampNeg) - (1 : Int32))) (fun (r10 : Int32) => cr_gd (cr_bo r10) (some r10)))
set_option maxRecDepth 100000 in
set_option maxHeartbeats 4000000 in
theorem t_X8_isMarble {p : Program} {l : Launch} {e : Env} {s : State} {m : MethodId} {args : Array Value} {below : List Frame} {meth : Method} {c : Code} {w : cr_Wd} (X : cr_Cx w RX8 (Cond.code yX8_isMarble cX8_isMarble 2 (some .boolean)) cX8_isMarble 2 p s m args meth c) (x1 : Int32) (V : cr_Hp)  (hr0 : meth.sig.returnType = (some .boolean)) (x : Int32) (h : f_X8_isMarble x1 V = some x) : cr_J w 2 p l e rm_X8_isMarble s m args below meth c 0 0 (MQ below (cr_Qi w V x) args s 0 0 (cr_A w)) V 0 [(0, .ref (w.1 159)), (1, .int x1)] [] := by
  unfold f_X8_isMarble at h
  refine jr_iload_n X.c dX8_isMarble_0 rfl 1 rfl ?_
  refine jr_iconst X.c (v := (0 : Int32)) dX8_isMarble_1 (by decide) ?_
  refine jr_aload_n X.c dX8_isMarble_2 rfl 0 rfl ?_
  refine jr_get X.c (ci := 8) (C := RX8) (T := TX8) (N := 22) (k := 0) rfl cr_in8 (by decide) ((cr_row_159 w) _) rfl (by decide) fl_X8_7 dX8_isMarble_3 ?_
  refine jr_iconst X.c (v := (0 : Int32)) dX8_isMarble_6 (by decide) ?_
  obtain ⟨hi7, h⟩ := cr_gd_s h
  refine jr_iald X.c (by decide) ((cr_row_160 w) _) hi7 dX8_isMarble_7 ?_
  refine jr_iconst X.c (v := (1 : Int32)) dX8_isMarble_8 (by decide) ?_
  refine jr_isub X.c dX8_isMarble_9 ?_
  obtain ⟨r10, hr10, h⟩ := cr_bd_s h
  refine jc_Si X.c (As := [.int x1, .int (0 : Int32), .int ((V 160 (0 : Int32).toNatClampNeg) - (1 : Int32))]) (V1 := V) 3 (m_X8_within l w V x1 (0 : Int32) ((V 160 (0 : Int32).toNatClampNeg) - (1 : Int32))  r10 hr10) ⟨rfl, rfl⟩ ml_X8_39 st_X8_within in_X8 cd_X8_within hd_X8_within ⟨Nat.le_of_ble_eq_true rfl, Nat.le_of_ble_eq_true rfl⟩ ⟨Nat.le_of_ble_eq_true rfl, Nat.le_of_ble_eq_true rfl⟩ rfl (Nat.le_of_ble_eq_true rfl) rfl dX8_isMarble_10 ?_
  obtain ⟨hk13, h⟩ := cr_gd_s h
  cases h
  exact jr_zret X.c hr0 (cr_nb hk13) dX8_isMarble_13
set_option maxRecDepth 100000 in
set_option maxHeartbeats 4000000 in
theorem m_X8_isMarble (l : Launch) (w : cr_Wd) (V : cr_Hp) (x1 : Int32)  (x : Int32) (h : f_X8_isMarble x1 V = some x) : Met l yX8_isMarble (cr_wds yX8_isMarble cX8_isMarble 2 (some .boolean)) rm_X8_isMarble (cr_Pc w V [.ref (w.1 159), .int x1]) (cr_Qi w V x) 0 0 (cr_A w) := by
  refine cr_met (own := RX8) (lv := [(0, .ref (w.1 159)), (1, .int x1)]) (by decide +kernel) rfl (Nat.le_of_ble_eq_true rfl) rfl (fun p e s m args below meth c X hr0 => ?_)
  exact t_X8_isMarble X x1 V  hr0 x h
abbrev rm_X8_ringPart : Room := { frames := 0, cells := 0, slots := 0, locals := 0 }
theorem hd_X8_ringPart : yX8_ringPart.cls = RX8 ∧ yX8_ringPart.cls ≠ "java/lang/invoke/MethodHandle" ∧ yX8_ringPart.cls ≠ "java/lang/invoke/VarHandle" ∧ (parseMethodDescriptor yX8_ringPart.desc).map (fun d => d.parameters.length) = some 2 := by decide +kernel
def f_X8_ringPart (x1 : Int32) (x2 : Int32) (V : cr_Hp) : Option (Int32) :=
  cr_gd (cr_ix (((68 : Int32) + ((3 : Int32) * x1)) + x2) 80) (some (V 160 (((68 : Int32) + ((3 : Int32) * x1)) + x2).toNatClampNeg))
set_option maxRecDepth 100000 in
set_option maxHeartbeats 4000000 in
theorem t_X8_ringPart {p : Program} {l : Launch} {e : Env} {s : State} {m : MethodId} {args : Array Value} {below : List Frame} {meth : Method} {c : Code} {w : cr_Wd} (X : cr_Cx w RX8 (Cond.code yX8_ringPart cX8_ringPart 3 (some .int)) cX8_ringPart 3 p s m args meth c) (x1 : Int32) (x2 : Int32) (V : cr_Hp)  (hr0 : meth.sig.returnType = (some .int)) (x : Int32) (h : f_X8_ringPart x1 x2 V = some x) : cr_J w 3 p l e rm_X8_ringPart s m args below meth c 0 0 (MQ below (cr_Qi w V x) args s 0 0 (cr_A w)) V 0 [(0, .ref (w.1 159)), (1, .int x1), (2, .int x2)] [] := by
  unfold f_X8_ringPart at h
  refine jr_aload_n X.c dX8_ringPart_0 rfl 0 rfl ?_
  refine jr_get X.c (ci := 8) (C := RX8) (T := TX8) (N := 22) (k := 0) rfl cr_in8 (by decide) ((cr_row_159 w) _) rfl (by decide) fl_X8_7 dX8_ringPart_1 ?_
  refine jr_bipush X.c (v := (68 : Int32)) dX8_ringPart_4 (by decide) ?_
  refine jr_iconst X.c (v := (3 : Int32)) dX8_ringPart_6 (by decide) ?_
  refine jr_iload_n X.c dX8_ringPart_7 rfl 1 rfl ?_
  refine jr_imul X.c dX8_ringPart_8 ?_
  refine jr_iadd X.c dX8_ringPart_9 ?_
  refine jr_iload_n X.c dX8_ringPart_10 rfl 2 rfl ?_
  refine jr_iadd X.c dX8_ringPart_11 ?_
  obtain ⟨hi12, h⟩ := cr_gd_s h
  refine jr_iald X.c (by decide) ((cr_row_160 w) _) hi12 dX8_ringPart_12 ?_
  cases h
  exact jr_iret X.c hr0 dX8_ringPart_13
set_option maxRecDepth 100000 in
set_option maxHeartbeats 4000000 in
theorem m_X8_ringPart (l : Launch) (w : cr_Wd) (V : cr_Hp) (x1 : Int32) (x2 : Int32)  (x : Int32) (h : f_X8_ringPart x1 x2 V = some x) : Met l yX8_ringPart (cr_wds yX8_ringPart cX8_ringPart 3 (some .int)) rm_X8_ringPart (cr_Pc w V [.ref (w.1 159), .int x1, .int x2]) (cr_Qi w V x) 0 0 (cr_A w) := by
  refine cr_met (own := RX8) (lv := [(0, .ref (w.1 159)), (1, .int x1), (2, .int x2)]) (by decide +kernel) rfl (Nat.le_of_ble_eq_true rfl) rfl (fun p e s m args below meth c X hr0 => ?_)
  exact t_X8_ringPart X x1 x2 V  hr0 x h
abbrev rm_X8_isIn : Room := { frames := 1, cells := 0, slots := 0, locals := 22 }
theorem hd_X8_isIn : yX8_isIn.cls = RX8 ∧ yX8_isIn.cls ≠ "java/lang/invoke/MethodHandle" ∧ yX8_isIn.cls ≠ "java/lang/invoke/VarHandle" ∧ (parseMethodDescriptor yX8_isIn.desc).map (fun d => d.parameters.length) = some 3 := by decide +kernel
def f_X8_isIn (x1 : Int32) (x2 : Int32) (x3 : Int32) (V : cr_Hp) : Option (Int32) :=
  cr_bd (f_X8_ringPart x1 (0 : Int32) V) (fun (r4 : Int32) => cr_bd (f_X8_ringPart x1 (1 : Int32) V) (fun (r14 : Int32) => cr_bd (f_X8_ringPart x1 (2 : Int32) V) (fun (r34 : Int32) => cr_bd (f_X8_ringPart x1 (2 : Int32) V) (fun (r40 : Int32) => if (r34 * r40) < (((x2 - r4) * (x2 - r4)) + ((x3 - r14) * (x3 - r14))) then (some (0 : Int32)) else (some (1 : Int32))))))
set_option maxRecDepth 100000 in
set_option maxHeartbeats 4000000 in
theorem t_X8_isIn {p : Program} {l : Launch} {e : Env} {s : State} {m : MethodId} {args : Array Value} {below : List Frame} {meth : Method} {c : Code} {w : cr_Wd} (X : cr_Cx w RX8 (Cond.code yX8_isIn cX8_isIn 6 (some .boolean)) cX8_isIn 6 p s m args meth c) (x1 : Int32) (x2 : Int32) (x3 : Int32) (V : cr_Hp)  (hr0 : meth.sig.returnType = (some .boolean)) (x : Int32) (h : f_X8_isIn x1 x2 x3 V = some x) : cr_J w 6 p l e rm_X8_isIn s m args below meth c 0 0 (MQ below (cr_Qi w V x) args s 0 0 (cr_A w)) V 0 [(0, .ref (w.1 159)), (1, .int x1), (2, .int x2), (3, .int x3)] [] := by
  unfold f_X8_isIn at h
  refine jr_iload_n X.c dX8_isIn_0 rfl 2 rfl ?_
  refine jr_aload_n X.c dX8_isIn_1 rfl 0 rfl ?_
  refine jr_iload_n X.c dX8_isIn_2 rfl 1 rfl ?_
  refine jr_iconst X.c (v := (0 : Int32)) dX8_isIn_3 (by decide) ?_
  obtain ⟨r4, hr4, h⟩ := cr_bd_s h
  refine jc_Vi X.c (As := [.int x1, .int (0 : Int32)]) (V1 := V) (C := RX8) (T := TX8) (N := 22) (ci := 8) 2 (m_X8_ringPart l w V x1 (0 : Int32)  r4 hr4) ⟨rfl, rfl⟩ ml_X8_47 im_X8_ringPart sl_X8_ringPart in_X8 cd_X8_ringPart hd_X8_ringPart ⟨Nat.le_of_ble_eq_true rfl, Nat.le_of_ble_eq_true rfl⟩ ⟨Nat.le_of_ble_eq_true rfl, Nat.le_of_ble_eq_true rfl⟩ rfl (Nat.le_of_ble_eq_true rfl) (by decide) ((cr_row_159 w) _) rfl rfl dX8_isIn_4 ?_
  refine jr_isub X.c dX8_isIn_7 ?_
  refine jr_istore X.c (lv2 := [(4, .int (x2 - r4)), (0, .ref (w.1 159)), (1, .int x1), (2, .int x2), (3, .int x3)]) dX8_isIn_8 (by decide) rfl ?_
  refine jr_iload_n X.c dX8_isIn_10 rfl 4 rfl ?_
  refine jr_aload_n X.c dX8_isIn_11 rfl 1 rfl ?_
  refine jr_iload_n X.c dX8_isIn_12 rfl 2 rfl ?_
  refine jr_iconst X.c (v := (1 : Int32)) dX8_isIn_13 (by decide) ?_
  obtain ⟨r14, hr14, h⟩ := cr_bd_s h
  refine jc_Vi X.c (As := [.int x1, .int (1 : Int32)]) (V1 := V) (C := RX8) (T := TX8) (N := 22) (ci := 8) 2 (m_X8_ringPart l w V x1 (1 : Int32)  r14 hr14) ⟨rfl, rfl⟩ ml_X8_47 im_X8_ringPart sl_X8_ringPart in_X8 cd_X8_ringPart hd_X8_ringPart ⟨Nat.le_of_ble_eq_true rfl, Nat.le_of_ble_eq_true rfl⟩ ⟨Nat.le_of_ble_eq_true rfl, Nat.le_of_ble_eq_true rfl⟩ rfl (Nat.le_of_ble_eq_true rfl) (by decide) ((cr_row_159 w) _) rfl rfl dX8_isIn_14 ?_
  refine jr_isub X.c dX8_isIn_17 ?_
  refine jr_istore X.c (lv2 := [(5, .int (x3 - r14)), (4, .int (x2 - r4)), (0, .ref (w.1 159)), (1, .int x1), (2, .int x2), (3, .int x3)]) dX8_isIn_18 (by decide) rfl ?_
  refine jr_iload X.c dX8_isIn_20 1 rfl ?_
  refine jr_iload X.c dX8_isIn_22 1 rfl ?_
  refine jr_imul X.c dX8_isIn_24 ?_
  refine jr_iload X.c dX8_isIn_25 0 rfl ?_
  refine jr_iload X.c dX8_isIn_27 0 rfl ?_
  refine jr_imul X.c dX8_isIn_29 ?_
  refine jr_iadd X.c dX8_isIn_30 ?_
  refine jr_aload_n X.c dX8_isIn_31 rfl 2 rfl ?_
  refine jr_iload_n X.c dX8_isIn_32 rfl 3 rfl ?_
  refine jr_iconst X.c (v := (2 : Int32)) dX8_isIn_33 (by decide) ?_
  obtain ⟨r34, hr34, h⟩ := cr_bd_s h
  refine jc_Vi X.c (As := [.int x1, .int (2 : Int32)]) (V1 := V) (C := RX8) (T := TX8) (N := 22) (ci := 8) 2 (m_X8_ringPart l w V x1 (2 : Int32)  r34 hr34) ⟨rfl, rfl⟩ ml_X8_47 im_X8_ringPart sl_X8_ringPart in_X8 cd_X8_ringPart hd_X8_ringPart ⟨Nat.le_of_ble_eq_true rfl, Nat.le_of_ble_eq_true rfl⟩ ⟨Nat.le_of_ble_eq_true rfl, Nat.le_of_ble_eq_true rfl⟩ rfl (Nat.le_of_ble_eq_true rfl) (by decide) ((cr_row_159 w) _) rfl rfl dX8_isIn_34 ?_
  refine jr_aload_n X.c dX8_isIn_37 rfl 2 rfl ?_
  refine jr_iload_n X.c dX8_isIn_38 rfl 3 rfl ?_
  refine jr_iconst X.c (v := (2 : Int32)) dX8_isIn_39 (by decide) ?_
  obtain ⟨r40, hr40, h⟩ := cr_bd_s h
  refine jc_Vi X.c (As := [.int x1, .int (2 : Int32)]) (V1 := V) (C := RX8) (T := TX8) (N := 22) (ci := 8) 2 (m_X8_ringPart l w V x1 (2 : Int32)  r40 hr40) ⟨rfl, rfl⟩ ml_X8_47 im_X8_ringPart sl_X8_ringPart in_X8 cd_X8_ringPart hd_X8_ringPart ⟨Nat.le_of_ble_eq_true rfl, Nat.le_of_ble_eq_true rfl⟩ ⟨Nat.le_of_ble_eq_true rfl, Nat.le_of_ble_eq_true rfl⟩ rfl (Nat.le_of_ble_eq_true rfl) (by decide) ((cr_row_159 w) _) rfl rfl dX8_isIn_40 ?_
  refine jr_imul X.c dX8_isIn_43 ?_
  refine jr_icmp_gt X.c 51 dX8_isIn_44 (by decide) (fun q44 => ?_) (fun q44 => ?_)
  · replace h := cr_if_t q44 h
    refine jr_iconst X.c (v := (0 : Int32)) dX8_isIn_51 (by decide) ?_
    cases h
    exact jr_zret X.c (r := (0 : Int32)) hr0 (by decide) dX8_isIn_52
  · replace h := cr_if_f q44 h
    refine jr_iconst X.c (v := (1 : Int32)) dX8_isIn_47 (by decide) ?_
    refine jr_goto X.c 52 dX8_isIn_48 (by decide) ?_
    cases h
    exact jr_zret X.c (r := (1 : Int32)) hr0 (by decide) dX8_isIn_52
set_option maxRecDepth 100000 in
set_option maxHeartbeats 4000000 in
theorem m_X8_isIn (l : Launch) (w : cr_Wd) (V : cr_Hp) (x1 : Int32) (x2 : Int32) (x3 : Int32)  (x : Int32) (h : f_X8_isIn x1 x2 x3 V = some x) : Met l yX8_isIn (cr_wds yX8_isIn cX8_isIn 6 (some .boolean)) rm_X8_isIn (cr_Pc w V [.ref (w.1 159), .int x1, .int x2, .int x3]) (cr_Qi w V x) 0 0 (cr_A w) := by
  refine cr_met (own := RX8) (lv := [(0, .ref (w.1 159)), (1, .int x1), (2, .int x2), (3, .int x3)]) (by decide +kernel) rfl (Nat.le_of_ble_eq_true rfl) rfl (fun p e s m args below meth c X hr0 => ?_)
  exact t_X8_isIn X x1 x2 x3 V  hr0 x h
abbrev rm_X8_ringsOf : Room := { frames := 2, cells := 0, slots := 0, locals := 47 }
theorem hd_X8_ringsOf : yX8_ringsOf.cls = RX8 ∧ yX8_ringsOf.cls ≠ "java/lang/invoke/MethodHandle" ∧ yX8_ringsOf.cls ≠ "java/lang/invoke/VarHandle" ∧ (parseMethodDescriptor yX8_ringsOf.desc).map (fun d => d.parameters.length) = some 2 := by decide +kernel
def f_X8_ringsOf_l5 (x1 : Int32) (x2 : Int32) (x3_5 : Int32) (x4_5 : Int32) (V : cr_Hp) : Option ((Int32 × Int32) ⊕ Int32) :=
  cr_gd (cr_ix (1 : Int32) 80) (if (V 160 (1 : Int32).toNatClampNeg) ≤ x4_5 then (some (.inr x3_5)) else (cr_bd (f_X8_isIn x4_5 x1 x2 V) (fun (r22 : Int32) => if r22 = 0 then (some (.inl ((x3_5 ||| (0 : Int32)), (x4_5 + (1 : Int32))))) else (some (.inl ((x3_5 ||| ((1 : Int32) <<< (x4_5 &&& 31))), (x4_5 + (1 : Int32))))))))
set_option maxRecDepth 100000 in
set_option maxHeartbeats 4000000 in
theorem t_X8_ringsOf_l5 {p : Program} {l : Launch} {e : Env} {s : State} {m : MethodId} {args : Array Value} {below : List Frame} {meth : Method} {c : Code} {w : cr_Wd} {Q : State → Prop} (X : cr_Cx w RX8 (Cond.code yX8_ringsOf cX8_ringsOf 5 (some .int)) cX8_ringsOf 5 p s m args meth c) (x1 : Int32) (x2 : Int32) (x3_5 : Int32) (x4_5 : Int32) (V : cr_Hp)  (x : (Int32 × Int32) ⊕ Int32) (h : f_X8_ringsOf_l5 x1 x2 x3_5 x4_5 V = some x) (kl : ∀ (x3_5 : Int32) (x4_5 : Int32), x = .inl (x3_5, x4_5) → cr_J w 5 p l e rm_X8_ringsOf s m args below meth c 0 0 Q V 5 [(0, .ref (w.1 159)), (1, .int x1), (2, .int x2), (3, .int x3_5), (4, .int x4_5)] []) (kr44 : ∀ (u3_5_44 : Int32), x = .inr u3_5_44 → cr_J w 5 p l e rm_X8_ringsOf s m args below meth c 0 0 Q V 44 [(3, .int u3_5_44)] []) : cr_J w 5 p l e rm_X8_ringsOf s m args below meth c 0 0 Q V 5 [(0, .ref (w.1 159)), (1, .int x1), (2, .int x2), (3, .int x3_5), (4, .int x4_5)] [] := by
  unfold f_X8_ringsOf_l5 at h
  refine jr_iload X.c dX8_ringsOf_5 4 rfl ?_
  refine jr_aload_n X.c dX8_ringsOf_7 rfl 0 rfl ?_
  refine jr_get X.c (ci := 8) (C := RX8) (T := TX8) (N := 22) (k := 0) rfl cr_in8 (by decide) ((cr_row_159 w) _) rfl (by decide) fl_X8_7 dX8_ringsOf_8 ?_
  refine jr_iconst X.c (v := (1 : Int32)) dX8_ringsOf_11 (by decide) ?_
  obtain ⟨hi12, h⟩ := cr_gd_s h
  refine jr_iald X.c (by decide) ((cr_row_160 w) _) hi12 dX8_ringsOf_12 ?_
  refine jr_icmp_ge X.c 44 dX8_ringsOf_13 (by decide) (fun q13 => ?_) (fun q13 => ?_)
  · replace h := cr_if_t q13 h
    cases h
    refine jr_sub [3] rfl ?_
    exact kr44 x3_5 rfl
  · replace h := cr_if_f q13 h
    refine jr_iload_n X.c dX8_ringsOf_16 rfl 3 rfl ?_
    refine jr_aload_n X.c dX8_ringsOf_17 rfl 0 rfl ?_
    refine jr_iload X.c dX8_ringsOf_18 4 rfl ?_
    refine jr_iload_n X.c dX8_ringsOf_20 rfl 1 rfl ?_
    refine jr_iload_n X.c dX8_ringsOf_21 rfl 2 rfl ?_
    obtain ⟨r22, hr22, h⟩ := cr_bd_s h
    refine jc_Vi X.c (As := [.int x4_5, .int x1, .int x2]) (V1 := V) (C := RX8) (T := TX8) (N := 22) (ci := 8) 3 (m_X8_isIn l w V x4_5 x1 x2  r22 hr22) ⟨rfl, rfl⟩ ml_X8_50 im_X8_isIn sl_X8_isIn in_X8 cd_X8_isIn hd_X8_isIn ⟨Nat.le_of_ble_eq_true rfl, Nat.le_of_ble_eq_true rfl⟩ ⟨Nat.le_of_ble_eq_true rfl, Nat.le_of_ble_eq_true rfl⟩ rfl (Nat.le_of_ble_eq_true rfl) (by decide) ((cr_row_159 w) _) rfl rfl dX8_ringsOf_22 ?_
    refine jr_if_eq X.c 35 dX8_ringsOf_25 (by decide) (fun q25 => ?_) (fun q25 => ?_)
    · replace h := cr_if_t q25 h
      refine jr_iconst X.c (v := (0 : Int32)) dX8_ringsOf_35 (by decide) ?_
      refine jr_ior X.c dX8_ringsOf_36 ?_
      refine jr_istore_n X.c (lv2 := [(3, .int (x3_5 ||| (0 : Int32))), (0, .ref (w.1 159)), (1, .int x1), (2, .int x2), (4, .int x4_5)]) dX8_ringsOf_37 rfl (by decide) rfl ?_
      refine jr_iinc X.c (v := (x4_5 + (1 : Int32))) (lv2 := [(4, .int (x4_5 + (1 : Int32))), (3, .int (x3_5 ||| (0 : Int32))), (0, .ref (w.1 159)), (1, .int x1), (2, .int x2)]) dX8_ringsOf_38 4 rfl (by rfl) (by decide) rfl ?_
      refine jr_goto X.c 5 dX8_ringsOf_41 (by decide) ?_
      cases h
      refine jr_sub [2, 3, 4, 1, 0] rfl ?_
      exact kl (x3_5 ||| (0 : Int32)) (x4_5 + (1 : Int32)) rfl
    · replace h := cr_if_f q25 h
      refine jr_iconst X.c (v := (1 : Int32)) dX8_ringsOf_28 (by decide) ?_
      refine jr_iload X.c dX8_ringsOf_29 4 rfl ?_
      refine jr_ishl X.c dX8_ringsOf_31 ?_
      refine jr_goto X.c 36 dX8_ringsOf_32 (by decide) ?_
      refine jr_ior X.c dX8_ringsOf_36 ?_
      refine jr_istore_n X.c (lv2 := [(3, .int (x3_5 ||| ((1 : Int32) <<< (x4_5 &&& 31)))), (0, .ref (w.1 159)), (1, .int x1), (2, .int x2), (4, .int x4_5)]) dX8_ringsOf_37 rfl (by decide) rfl ?_
      refine jr_iinc X.c (v := (x4_5 + (1 : Int32))) (lv2 := [(4, .int (x4_5 + (1 : Int32))), (3, .int (x3_5 ||| ((1 : Int32) <<< (x4_5 &&& 31)))), (0, .ref (w.1 159)), (1, .int x1), (2, .int x2)]) dX8_ringsOf_38 4 rfl (by rfl) (by decide) rfl ?_
      refine jr_goto X.c 5 dX8_ringsOf_41 (by decide) ?_
      cases h
      refine jr_sub [2, 3, 4, 1, 0] rfl ?_
      exact kl (x3_5 ||| ((1 : Int32) <<< (x4_5 &&& 31))) (x4_5 + (1 : Int32)) rfl
def f_X8_ringsOf (x1 : Int32) (x2 : Int32) (V : cr_Hp) : Option (Int32) :=
  cr_bd (cr_it (fun (q : Int32 × Int32) => f_X8_ringsOf_l5 x1 x2 q.1 q.2 V) cr_FU ((0 : Int32), (0 : Int32))) (fun (u3_5_44 : Int32) => some u3_5_44)
set_option maxRecDepth 100000 in
set_option maxHeartbeats 4000000 in
theorem t_X8_ringsOf {p : Program} {l : Launch} {e : Env} {s : State} {m : MethodId} {args : Array Value} {below : List Frame} {meth : Method} {c : Code} {w : cr_Wd} (X : cr_Cx w RX8 (Cond.code yX8_ringsOf cX8_ringsOf 5 (some .int)) cX8_ringsOf 5 p s m args meth c) (x1 : Int32) (x2 : Int32) (V : cr_Hp)  (hr0 : meth.sig.returnType = (some .int)) (x : Int32) (h : f_X8_ringsOf x1 x2 V = some x) : cr_J w 5 p l e rm_X8_ringsOf s m args below meth c 0 0 (MQ below (cr_Qi w V x) args s 0 0 (cr_A w)) V 0 [(0, .ref (w.1 159)), (1, .int x1), (2, .int x2)] [] := by
  unfold f_X8_ringsOf at h
  refine jr_iconst X.c (v := (0 : Int32)) dX8_ringsOf_0 (by decide) ?_
  refine jr_istore_n X.c (lv2 := [(3, .int (0 : Int32)), (0, .ref (w.1 159)), (1, .int x1), (2, .int x2)]) dX8_ringsOf_1 rfl (by decide) rfl ?_
  refine jr_iconst X.c (v := (0 : Int32)) dX8_ringsOf_2 (by decide) ?_
  refine jr_istore X.c (lv2 := [(4, .int (0 : Int32)), (3, .int (0 : Int32)), (0, .ref (w.1 159)), (1, .int x1), (2, .int x2)]) dX8_ringsOf_3 (by decide) rfl ?_
  obtain ⟨e5, he5, h⟩ := cr_bd_s h
  have kx44 : ∀ (u3_5_44 : Int32), e5 = u3_5_44 → cr_J w 5 p l e rm_X8_ringsOf s m args below meth c 0 0 (MQ below (cr_Qi w V x) args s 0 0 (cr_A w)) V 44 [(3, .int u3_5_44)] [] := by
    intro u3_5_44 qx
    rw [qx] at h
    try simp only [cr_sm, cr_u2, cr_u3, cr_u4, cr_u5, cr_u6] at h
    refine jr_iload_n X.c dX8_ringsOf_44 rfl 0 rfl ?_
    cases h
    exact jr_iret X.c hr0 dX8_ringsOf_45
  refine jr_sub [2, 3, 4, 1, 0] rfl ?_
  refine cr_it_W (f := (fun (q : Int32 × Int32) => f_X8_ringsOf_l5 x1 x2 q.1 q.2 V)) (P := fun (q : Int32 × Int32) => cr_J w 5 p l e rm_X8_ringsOf s m args below meth c 0 0 (MQ below (cr_Qi w V x) args s 0 0 (cr_A w)) V 5 [(0, .ref (w.1 159)), (1, .int x1), (2, .int x2), (3, .int q.1), (4, .int q.2)] []) (K := fun z => z = e5) (fun q x hx kl kr => ?_) cr_FU ((0 : Int32), (0 : Int32)) e5 he5 rfl
  obtain ⟨x3_5, x4_5⟩ := q
  exact t_X8_ringsOf_l5 X x1 x2 x3_5 x4_5 V  x hx (fun x3_5 x4_5 ez => kl _ ez) (fun u3_5_44 ez => kx44 u3_5_44 ((kr _ ez).symm))
set_option maxRecDepth 100000 in
set_option maxHeartbeats 4000000 in
theorem m_X8_ringsOf (l : Launch) (w : cr_Wd) (V : cr_Hp) (x1 : Int32) (x2 : Int32)  (x : Int32) (h : f_X8_ringsOf x1 x2 V = some x) : Met l yX8_ringsOf (cr_wds yX8_ringsOf cX8_ringsOf 5 (some .int)) rm_X8_ringsOf (cr_Pc w V [.ref (w.1 159), .int x1, .int x2]) (cr_Qi w V x) 0 0 (cr_A w) := by
  refine cr_met (own := RX8) (lv := [(0, .ref (w.1 159)), (1, .int x1), (2, .int x2)]) (by decide +kernel) rfl (Nat.le_of_ble_eq_true rfl) rfl (fun p e s m args below meth c X hr0 => ?_)
  exact t_X8_ringsOf X x1 x2 V  hr0 x h
abbrev rm_X8_ones : Room := { frames := 0, cells := 0, slots := 0, locals := 0 }
theorem hd_X8_ones : yX8_ones.cls ≠ "java/lang/invoke/MethodHandle" ∧ yX8_ones.cls ≠ "java/lang/invoke/VarHandle" ∧ (parseMethodDescriptor yX8_ones.desc).map (fun d => d.parameters.length) = some 1 := by decide +kernel
def f_X8_ones_l4 (x0 : Int32) (x1_4 : Int32) (x2_4 : Int32) : Option ((Int32 × Int32) ⊕ Int32) :=
  if (4 : Int32) ≤ x2_4 then (some (.inr x1_4)) else (some (.inl ((x1_4 + ((x0 >>> (x2_4 &&& 31)) &&& (1 : Int32))), (x2_4 + (1 : Int32)))))
set_option maxRecDepth 100000 in
set_option maxHeartbeats 4000000 in
theorem t_X8_ones_l4 {p : Program} {l : Launch} {e : Env} {s : State} {m : MethodId} {args : Array Value} {below : List Frame} {meth : Method} {c : Code} {w : cr_Wd} {Q : State → Prop} (X : cr_Cx w RX8 (Cond.code yX8_ones cX8_ones 3 (some .int)) cX8_ones 3 p s m args meth c) (x0 : Int32) (x1_4 : Int32) (x2_4 : Int32) (V : cr_Hp)  (x : (Int32 × Int32) ⊕ Int32) (h : f_X8_ones_l4 x0 x1_4 x2_4 = some x) (kl : ∀ (x1_4 : Int32) (x2_4 : Int32), x = .inl (x1_4, x2_4) → cr_J w 3 p l e rm_X8_ones s m args below meth c 0 0 Q V 4 [(0, .int x0), (1, .int x1_4), (2, .int x2_4)] []) (kr23 : ∀ (u1_4_23 : Int32), x = .inr u1_4_23 → cr_J w 3 p l e rm_X8_ones s m args below meth c 0 0 Q V 23 [(1, .int u1_4_23)] []) : cr_J w 3 p l e rm_X8_ones s m args below meth c 0 0 Q V 4 [(0, .int x0), (1, .int x1_4), (2, .int x2_4)] [] := by
  unfold f_X8_ones_l4 at h
  refine jr_iload_n X.c dX8_ones_4 rfl 2 rfl ?_
  refine jr_iconst X.c (v := (4 : Int32)) dX8_ones_5 (by decide) ?_
  refine jr_icmp_ge X.c 23 dX8_ones_6 (by decide) (fun q6 => ?_) (fun q6 => ?_)
  · replace h := cr_if_t q6 h
    cases h
    refine jr_sub [1] rfl ?_
    exact kr23 x1_4 rfl
  · replace h := cr_if_f q6 h
    refine jr_iload_n X.c dX8_ones_9 rfl 1 rfl ?_
    refine jr_iload_n X.c dX8_ones_10 rfl 0 rfl ?_
    refine jr_iload_n X.c dX8_ones_11 rfl 2 rfl ?_
    refine jr_ishr X.c dX8_ones_12 ?_
    refine jr_iconst X.c (v := (1 : Int32)) dX8_ones_13 (by decide) ?_
    refine jr_iand X.c dX8_ones_14 ?_
    refine jr_iadd X.c dX8_ones_15 ?_
    refine jr_istore_n X.c (lv2 := [(1, .int (x1_4 + ((x0 >>> (x2_4 &&& 31)) &&& (1 : Int32)))), (0, .int x0), (2, .int x2_4)]) dX8_ones_16 rfl (by decide) rfl ?_
    refine jr_iinc X.c (v := (x2_4 + (1 : Int32))) (lv2 := [(2, .int (x2_4 + (1 : Int32))), (1, .int (x1_4 + ((x0 >>> (x2_4 &&& 31)) &&& (1 : Int32)))), (0, .int x0)]) dX8_ones_17 2 rfl (by rfl) (by decide) rfl ?_
    refine jr_goto X.c 4 dX8_ones_20 (by decide) ?_
    cases h
    refine jr_sub [2, 1, 0] rfl ?_
    exact kl (x1_4 + ((x0 >>> (x2_4 &&& 31)) &&& (1 : Int32))) (x2_4 + (1 : Int32)) rfl
def f_X8_ones (x0 : Int32) : Option (Int32) :=
  cr_bd (cr_it (fun (q : Int32 × Int32) => f_X8_ones_l4 x0 q.1 q.2) cr_FU ((0 : Int32), (0 : Int32))) (fun (u1_4_23 : Int32) => some u1_4_23)
set_option maxRecDepth 100000 in
set_option maxHeartbeats 4000000 in
theorem t_X8_ones {p : Program} {l : Launch} {e : Env} {s : State} {m : MethodId} {args : Array Value} {below : List Frame} {meth : Method} {c : Code} {w : cr_Wd} (X : cr_Cx w RX8 (Cond.code yX8_ones cX8_ones 3 (some .int)) cX8_ones 3 p s m args meth c) (x0 : Int32) (V : cr_Hp)  (hr0 : meth.sig.returnType = (some .int)) (x : Int32) (h : f_X8_ones x0 = some x) : cr_J w 3 p l e rm_X8_ones s m args below meth c 0 0 (MQ below (cr_Qi w V x) args s 0 0 (cr_A w)) V 0 [(0, .int x0)] [] := by
  unfold f_X8_ones at h
  refine jr_iconst X.c (v := (0 : Int32)) dX8_ones_0 (by decide) ?_
  refine jr_istore_n X.c (lv2 := [(1, .int (0 : Int32)), (0, .int x0)]) dX8_ones_1 rfl (by decide) rfl ?_
  refine jr_iconst X.c (v := (0 : Int32)) dX8_ones_2 (by decide) ?_
  refine jr_istore_n X.c (lv2 := [(2, .int (0 : Int32)), (1, .int (0 : Int32)), (0, .int x0)]) dX8_ones_3 rfl (by decide) rfl ?_
  obtain ⟨e4, he4, h⟩ := cr_bd_s h
  have kx23 : ∀ (u1_4_23 : Int32), e4 = u1_4_23 → cr_J w 3 p l e rm_X8_ones s m args below meth c 0 0 (MQ below (cr_Qi w V x) args s 0 0 (cr_A w)) V 23 [(1, .int u1_4_23)] [] := by
    intro u1_4_23 qx
    rw [qx] at h
    try simp only [cr_sm, cr_u2, cr_u3, cr_u4, cr_u5, cr_u6] at h
    refine jr_iload_n X.c dX8_ones_23 rfl 0 rfl ?_
    cases h
    exact jr_iret X.c hr0 dX8_ones_24
  refine jr_sub [2, 1, 0] rfl ?_
  refine cr_it_W (f := (fun (q : Int32 × Int32) => f_X8_ones_l4 x0 q.1 q.2)) (P := fun (q : Int32 × Int32) => cr_J w 3 p l e rm_X8_ones s m args below meth c 0 0 (MQ below (cr_Qi w V x) args s 0 0 (cr_A w)) V 4 [(0, .int x0), (1, .int q.1), (2, .int q.2)] []) (K := fun z => z = e4) (fun q x hx kl kr => ?_) cr_FU ((0 : Int32), (0 : Int32)) e4 he4 rfl
  obtain ⟨x1_4, x2_4⟩ := q
  exact t_X8_ones_l4 X x0 x1_4 x2_4 V  x hx (fun x1_4 x2_4 ez => kl _ ez) (fun u1_4_23 ez => kx23 u1_4_23 ((kr _ ez).symm))
set_option maxRecDepth 100000 in
set_option maxHeartbeats 4000000 in
theorem m_X8_ones (l : Launch) (w : cr_Wd) (V : cr_Hp) (x0 : Int32)  (x : Int32) (h : f_X8_ones x0 = some x) : Met l yX8_ones (cr_wds yX8_ones cX8_ones 3 (some .int)) rm_X8_ones (cr_Pc w V [.int x0]) (cr_Qi w V x) 0 0 (cr_A w) := by
  refine cr_met (own := RX8) (lv := [(0, .int x0)]) (by decide +kernel) rfl (Nat.le_of_ble_eq_true rfl) rfl (fun p e s m args below meth c X hr0 => ?_)
  exact t_X8_ones X x0 V  hr0 x h
