abbrev rm_X8_stepsOut : Room := { frames := 4, cells := 0, slots := 0, locals := 92 }
theorem hd_X8_stepsOut : yX8_stepsOut.cls = RX8 ∧ yX8_stepsOut.cls ≠ "java/lang/invoke/MethodHandle" ∧ yX8_stepsOut.cls ≠ "java/lang/invoke/VarHandle" ∧ (parseMethodDescriptor yX8_stepsOut.desc).map (fun d => d.parameters.length) = some 1 := by decide +kernel
def f_X8_stepsOut_l34 (x1 : Int32) (x3_18 : Int32) (x2_34 : Int32) (x4_34 : Int32) (V : cr_Hp) : Option ((Int32 × Int32) ⊕ Int32) :=
  if (8 : Int32) ≤ x4_34 then (some (.inr x2_34)) else (cr_bd (f_X8_part x1 (0 : Int32) V) (fun (r44 : Int32) => cr_gd (cr_ix x4_34 8) (cr_lt ((r44 + (x3_18 * (V 164 x4_34.toNatClampNeg)))) (fun (n57 : Int32) => cr_bd (f_X8_part x1 (1 : Int32) V) (fun (r62 : Int32) => cr_gd (cr_ix x4_34 8) (cr_lt ((r62 + (x3_18 * (V 165 x4_34.toNatClampNeg)))) (fun (n75 : Int32) => cr_bd (f_X8_isPoint n57 n75) (fun (r81 : Int32) => if r81 = 0 then (some (.inl (x2_34, (x4_34 + (1 : Int32))))) else (cr_bd (f_X8_ringsOf n57 n75 V) (fun (r92 : Int32) => if r92 = 0 then (some (.inl (x3_18, (x4_34 + (1 : Int32))))) else (some (.inl (x2_34, (x4_34 + (1 : Int32)))))))))))))))
set_option maxRecDepth 100000 in
set_option maxHeartbeats 4000000 in
theorem t_X8_stepsOut_l34 {p : Program} {l : Launch} {e : Env} {s : State} {m : MethodId} {args : Array Value} {below : List Frame} {meth : Method} {c : Code} {w : cr_Wd} {Q : State → Prop} (X : cr_Cx w RX8 (Cond.code yX8_stepsOut cX8_stepsOut 7 (some .int)) cX8_stepsOut 7 p s m args meth c) (x1 : Int32) (x3_18 : Int32) (x2_34 : Int32) (x4_34 : Int32) (V : cr_Hp)  (x : (Int32 × Int32) ⊕ Int32) (h : f_X8_stepsOut_l34 x1 x3_18 x2_34 x4_34 V = some x) (kl : ∀ (x2_34 : Int32) (x4_34 : Int32), x = .inl (x2_34, x4_34) → cr_J w 7 p l e rm_X8_stepsOut s m args below meth c 0 0 Q V 34 [(0, .ref (w.1 159)), (1, .int x1), (2, .int x2_34), (3, .int x3_18), (4, .int x4_34)] []) (kr110 : ∀ (u2_34_110 : Int32), x = .inr u2_34_110 → cr_J w 7 p l e rm_X8_stepsOut s m args below meth c 0 0 Q V 110 [(0, .ref (w.1 159)), (1, .int x1), (2, .int u2_34_110), (3, .int x3_18)] []) : cr_J w 7 p l e rm_X8_stepsOut s m args below meth c 0 0 Q V 34 [(0, .ref (w.1 159)), (1, .int x1), (2, .int x2_34), (3, .int x3_18), (4, .int x4_34)] [] := by
  unfold f_X8_stepsOut_l34 at h
  refine jr_iload X.c dX8_stepsOut_34 4 rfl ?_
  refine jr_bipush X.c (v := (8 : Int32)) dX8_stepsOut_36 (by decide) ?_
  refine jr_icmp_ge X.c 110 dX8_stepsOut_38 (by decide) (fun q38 => ?_) (fun q38 => ?_)
  · replace h := cr_if_t q38 h
    cases h
    refine jr_sub [0, 1, 2, 3] rfl ?_
    exact kr110 x2_34 rfl
  · replace h := cr_if_f q38 h
    refine jr_aload_n X.c dX8_stepsOut_41 rfl 0 rfl ?_
    refine jr_iload_n X.c dX8_stepsOut_42 rfl 1 rfl ?_
    refine jr_iconst X.c (v := (0 : Int32)) dX8_stepsOut_43 (by decide) ?_
    obtain ⟨r44, hr44, h⟩ := cr_bd_s h
    refine jc_Vi X.c (As := [.int x1, .int (0 : Int32)]) (V1 := V) (C := RX8) (T := TX8) (N := 22) (ci := 8) 2 (m_X8_part l w V x1 (0 : Int32)  r44 hr44) ⟨rfl, rfl⟩ ml_X8_43 im_X8_part sl_X8_part in_X8 cd_X8_part hd_X8_part ⟨Nat.le_of_ble_eq_true rfl, Nat.le_of_ble_eq_true rfl⟩ ⟨Nat.le_of_ble_eq_true rfl, Nat.le_of_ble_eq_true rfl⟩ rfl (Nat.le_of_ble_eq_true rfl) (by decide) ((cr_row_159 w) _) rfl rfl dX8_stepsOut_44 ?_
    refine jr_iload_n X.c dX8_stepsOut_47 rfl 3 rfl ?_
    refine jr_aload_n X.c dX8_stepsOut_48 rfl 0 rfl ?_
    refine jr_get X.c (ci := 8) (C := RX8) (T := TX8) (N := 22) (k := 6) rfl cr_in8 (by decide) ((cr_row_159 w) _) rfl (by decide) fl_X8_22 dX8_stepsOut_49 ?_
    refine jr_iload X.c dX8_stepsOut_52 4 rfl ?_
    obtain ⟨hi54, h⟩ := cr_gd_s h
    refine jr_iald X.c (by decide) ((cr_row_164 w) _) hi54 dX8_stepsOut_54 ?_
    refine jr_imul X.c dX8_stepsOut_55 ?_
    refine jr_iadd X.c dX8_stepsOut_56 ?_
    obtain ⟨n57, en57, h⟩ := cr_lt_s h
    refine jr_top en57 ?_
    refine jr_istore X.c (lv2 := [(5, .int n57), (0, .ref (w.1 159)), (1, .int x1), (2, .int x2_34), (3, .int x3_18), (4, .int x4_34)]) dX8_stepsOut_57 (by decide) rfl ?_
    refine jr_aload_n X.c dX8_stepsOut_59 rfl 1 rfl ?_
    refine jr_iload_n X.c dX8_stepsOut_60 rfl 2 rfl ?_
    refine jr_iconst X.c (v := (1 : Int32)) dX8_stepsOut_61 (by decide) ?_
    obtain ⟨r62, hr62, h⟩ := cr_bd_s h
    refine jc_Vi X.c (As := [.int x1, .int (1 : Int32)]) (V1 := V) (C := RX8) (T := TX8) (N := 22) (ci := 8) 2 (m_X8_part l w V x1 (1 : Int32)  r62 hr62) ⟨rfl, rfl⟩ ml_X8_43 im_X8_part sl_X8_part in_X8 cd_X8_part hd_X8_part ⟨Nat.le_of_ble_eq_true rfl, Nat.le_of_ble_eq_true rfl⟩ ⟨Nat.le_of_ble_eq_true rfl, Nat.le_of_ble_eq_true rfl⟩ rfl (Nat.le_of_ble_eq_true rfl) (by decide) ((cr_row_159 w) _) rfl rfl dX8_stepsOut_62 ?_
    refine jr_iload_n X.c dX8_stepsOut_65 rfl 4 rfl ?_
    refine jr_aload_n X.c dX8_stepsOut_66 rfl 1 rfl ?_
    refine jr_get X.c (ci := 8) (C := RX8) (T := TX8) (N := 22) (k := 7) rfl cr_in8 (by decide) ((cr_row_159 w) _) rfl (by decide) fl_X8_25 dX8_stepsOut_67 ?_
    refine jr_iload X.c dX8_stepsOut_70 5 rfl ?_
    obtain ⟨hi72, h⟩ := cr_gd_s h
    refine jr_iald X.c (by decide) ((cr_row_165 w) _) hi72 dX8_stepsOut_72 ?_
    refine jr_imul X.c dX8_stepsOut_73 ?_
    refine jr_iadd X.c dX8_stepsOut_74 ?_
    obtain ⟨n75, en75, h⟩ := cr_lt_s h
    refine jr_top en75 ?_
    refine jr_istore X.c (lv2 := [(6, .int n75), (5, .int n57), (0, .ref (w.1 159)), (1, .int x1), (2, .int x2_34), (3, .int x3_18), (4, .int x4_34)]) dX8_stepsOut_75 (by decide) rfl ?_
    refine jr_iload X.c dX8_stepsOut_77 1 rfl ?_
    refine jr_iload X.c dX8_stepsOut_79 0 rfl ?_
    obtain ⟨r81, hr81, h⟩ := cr_bd_s h
    refine jc_Si X.c (As := [.int n57, .int n75]) (V1 := V) 2 (m_X8_isPoint l w V n57 n75  r81 hr81) ⟨rfl, rfl⟩ ml_X8_112 st_X8_isPoint in_X8 cd_X8_isPoint hd_X8_isPoint ⟨Nat.le_of_ble_eq_true rfl, Nat.le_of_ble_eq_true rfl⟩ ⟨Nat.le_of_ble_eq_true rfl, Nat.le_of_ble_eq_true rfl⟩ rfl (Nat.le_of_ble_eq_true rfl) rfl dX8_stepsOut_81 ?_
    refine jr_if_eq X.c 102 dX8_stepsOut_84 (by decide) (fun q84 => ?_) (fun q84 => ?_)
    · replace h := cr_if_t q84 h
      refine jr_iload_n X.c dX8_stepsOut_102 rfl 4 rfl ?_
      refine jr_istore_n X.c (lv2 := [(2, .int x2_34), (6, .int n75), (5, .int n57), (0, .ref (w.1 159)), (1, .int x1), (3, .int x3_18), (4, .int x4_34)]) dX8_stepsOut_103 rfl (by decide) rfl ?_
      refine jr_iinc X.c (v := (x4_34 + (1 : Int32))) (lv2 := [(4, .int (x4_34 + (1 : Int32))), (2, .int x2_34), (6, .int n75), (5, .int n57), (0, .ref (w.1 159)), (1, .int x1), (3, .int x3_18)]) dX8_stepsOut_104 6 rfl (by rfl) (by decide) rfl ?_
      refine jr_goto X.c 34 dX8_stepsOut_107 (by decide) ?_
      cases h
      refine jr_sub [4, 5, 1, 6, 0] rfl ?_
      exact kl x2_34 (x4_34 + (1 : Int32)) rfl
    · replace h := cr_if_f q84 h
      refine jr_aload_n X.c dX8_stepsOut_87 rfl 2 rfl ?_
      refine jr_iload X.c dX8_stepsOut_88 1 rfl ?_
      refine jr_iload X.c dX8_stepsOut_90 0 rfl ?_
      obtain ⟨r92, hr92, h⟩ := cr_bd_s h
      refine jc_Vi X.c (As := [.int n57, .int n75]) (V1 := V) (C := RX8) (T := TX8) (N := 22) (ci := 8) 2 (m_X8_ringsOf l w V n57 n75  r92 hr92) ⟨rfl, rfl⟩ ml_X8_53 im_X8_ringsOf sl_X8_ringsOf in_X8 cd_X8_ringsOf hd_X8_ringsOf ⟨Nat.le_of_ble_eq_true rfl, Nat.le_of_ble_eq_true rfl⟩ ⟨Nat.le_of_ble_eq_true rfl, Nat.le_of_ble_eq_true rfl⟩ rfl (Nat.le_of_ble_eq_true rfl) (by decide) ((cr_row_159 w) _) rfl rfl dX8_stepsOut_92 ?_
      refine jr_if_ne X.c 102 dX8_stepsOut_95 (by decide) (fun q95 => ?_) (fun q95 => ?_)
      · replace h := cr_if_f q95 h
        refine jr_iload_n X.c dX8_stepsOut_102 rfl 4 rfl ?_
        refine jr_istore_n X.c (lv2 := [(2, .int x2_34), (6, .int n75), (5, .int n57), (0, .ref (w.1 159)), (1, .int x1), (3, .int x3_18), (4, .int x4_34)]) dX8_stepsOut_103 rfl (by decide) rfl ?_
        refine jr_iinc X.c (v := (x4_34 + (1 : Int32))) (lv2 := [(4, .int (x4_34 + (1 : Int32))), (2, .int x2_34), (6, .int n75), (5, .int n57), (0, .ref (w.1 159)), (1, .int x1), (3, .int x3_18)]) dX8_stepsOut_104 6 rfl (by rfl) (by decide) rfl ?_
        refine jr_goto X.c 34 dX8_stepsOut_107 (by decide) ?_
        cases h
        refine jr_sub [4, 5, 1, 6, 0] rfl ?_
        exact kl x2_34 (x4_34 + (1 : Int32)) rfl
      · replace h := cr_if_t q95 h
        refine jr_iload_n X.c dX8_stepsOut_98 rfl 5 rfl ?_
        refine jr_goto X.c 103 dX8_stepsOut_99 (by decide) ?_
        refine jr_istore_n X.c (lv2 := [(2, .int x3_18), (6, .int n75), (5, .int n57), (0, .ref (w.1 159)), (1, .int x1), (3, .int x3_18), (4, .int x4_34)]) dX8_stepsOut_103 rfl (by decide) rfl ?_
        refine jr_iinc X.c (v := (x4_34 + (1 : Int32))) (lv2 := [(4, .int (x4_34 + (1 : Int32))), (2, .int x3_18), (6, .int n75), (5, .int n57), (0, .ref (w.1 159)), (1, .int x1), (3, .int x3_18)]) dX8_stepsOut_104 6 rfl (by rfl) (by decide) rfl ?_
        refine jr_goto X.c 34 dX8_stepsOut_107 (by decide) ?_
        cases h
        refine jr_sub [4, 5, 1, 6, 0] rfl ?_
        exact kl x3_18 (x4_34 + (1 : Int32)) rfl
def f_X8_stepsOut_l18 (x1 : Int32) (x2_18 : Int32) (x3_18 : Int32) (V : cr_Hp) : Option ((Int32 × Int32) ⊕ Int32) :=
  if (30 : Int32) < x3_18 then (some (.inr x2_18)) else (if x2_18 = (-1006 : Int32) then (cr_bd (cr_it (fun (q : Int32 × Int32) => f_X8_stepsOut_l34 x1 x3_18 q.1 q.2 V) cr_FU (x2_18, (0 : Int32))) (fun (u2_34_110 : Int32) => some (.inl (u2_34_110, (x3_18 + (1 : Int32)))))) else (some (.inr x2_18)))
set_option maxRecDepth 100000 in
set_option maxHeartbeats 4000000 in
theorem t_X8_stepsOut_l18 {p : Program} {l : Launch} {e : Env} {s : State} {m : MethodId} {args : Array Value} {below : List Frame} {meth : Method} {c : Code} {w : cr_Wd} {Q : State → Prop} (X : cr_Cx w RX8 (Cond.code yX8_stepsOut cX8_stepsOut 7 (some .int)) cX8_stepsOut 7 p s m args meth c) (x1 : Int32) (x2_18 : Int32) (x3_18 : Int32) (V : cr_Hp)  (x : (Int32 × Int32) ⊕ Int32) (h : f_X8_stepsOut_l18 x1 x2_18 x3_18 V = some x) (kl : ∀ (x2_18 : Int32) (x3_18 : Int32), x = .inl (x2_18, x3_18) → cr_J w 7 p l e rm_X8_stepsOut s m args below meth c 0 0 Q V 18 [(0, .ref (w.1 159)), (1, .int x1), (2, .int x2_18), (3, .int x3_18)] []) (kr116 : ∀ (u2_18_116 : Int32), x = .inr u2_18_116 → cr_J w 7 p l e rm_X8_stepsOut s m args below meth c 0 0 Q V 116 [(2, .int u2_18_116)] []) : cr_J w 7 p l e rm_X8_stepsOut s m args below meth c 0 0 Q V 18 [(0, .ref (w.1 159)), (1, .int x1), (2, .int x2_18), (3, .int x3_18)] [] := by
  unfold f_X8_stepsOut_l18 at h
  refine jr_iload_n X.c dX8_stepsOut_18 rfl 3 rfl ?_
  refine jr_bipush X.c (v := (30 : Int32)) dX8_stepsOut_19 (by decide) ?_
  refine jr_icmp_gt X.c 116 dX8_stepsOut_21 (by decide) (fun q21 => ?_) (fun q21 => ?_)
  · replace h := cr_if_t q21 h
    cases h
    refine jr_sub [2] rfl ?_
    exact kr116 x2_18 rfl
  · replace h := cr_if_f q21 h
    refine jr_iload_n X.c dX8_stepsOut_24 rfl 2 rfl ?_
    refine jr_sipush X.c (v := (-1006 : Int32)) dX8_stepsOut_25 (by decide) ?_
    refine jr_icmp_ne X.c 116 dX8_stepsOut_28 (by decide) (fun q28 => ?_) (fun q28 => ?_)
    · replace h := cr_if_f q28 h
      cases h
      refine jr_sub [2] rfl ?_
      exact kr116 x2_18 rfl
    · replace h := cr_if_t q28 h
      refine jr_iconst X.c (v := (0 : Int32)) dX8_stepsOut_31 (by decide) ?_
      refine jr_istore X.c (lv2 := [(4, .int (0 : Int32)), (0, .ref (w.1 159)), (1, .int x1), (2, .int x2_18), (3, .int x3_18)]) dX8_stepsOut_32 (by decide) rfl ?_
      obtain ⟨e34, he34, h⟩ := cr_bd_s h
      have kx110 : ∀ (u2_34_110 : Int32), e34 = u2_34_110 → cr_J w 7 p l e rm_X8_stepsOut s m args below meth c 0 0 Q V 110 [(0, .ref (w.1 159)), (1, .int x1), (2, .int u2_34_110), (3, .int x3_18)] [] := by
        intro u2_34_110 qx
        rw [qx] at h
        try simp only [cr_sm, cr_u2, cr_u3, cr_u4, cr_u5, cr_u6] at h
        refine jr_iinc X.c (v := (x3_18 + (1 : Int32))) (lv2 := [(3, .int (x3_18 + (1 : Int32))), (0, .ref (w.1 159)), (1, .int x1), (2, .int u2_34_110)]) dX8_stepsOut_110 3 rfl (by rfl) (by decide) rfl ?_
        refine jr_goto X.c 18 dX8_stepsOut_113 (by decide) ?_
        cases h
        refine jr_sub [1, 2, 3, 0] rfl ?_
        exact kl u2_34_110 (x3_18 + (1 : Int32)) rfl
      refine jr_sub [1, 2, 3, 4, 0] rfl ?_
      refine cr_it_W (f := (fun (q : Int32 × Int32) => f_X8_stepsOut_l34 x1 x3_18 q.1 q.2 V)) (P := fun (q : Int32 × Int32) => cr_J w 7 p l e rm_X8_stepsOut s m args below meth c 0 0 Q V 34 [(0, .ref (w.1 159)), (1, .int x1), (2, .int q.1), (3, .int x3_18), (4, .int q.2)] []) (K := fun z => z = e34) (fun q x hx kl kr => ?_) cr_FU (x2_18, (0 : Int32)) e34 he34 rfl
      obtain ⟨x2_34, x4_34⟩ := q
      exact t_X8_stepsOut_l34 X x1 x3_18 x2_34 x4_34 V  x hx (fun x2_34 x4_34 ez => kl _ ez) (fun u2_34_110 ez => kx110 u2_34_110 ((kr _ ez).symm))
def f_X8_stepsOut_b15 (x1 : Int32) (z0_15 : Int32) (V : cr_Hp) : Option (Int32) :=
  cr_bd (cr_it (fun (q : Int32 × Int32) => f_X8_stepsOut_l18 x1 q.1 q.2 V) cr_FU (z0_15, (1 : Int32))) (fun (u2_18_116 : Int32) => some u2_18_116)
set_option maxRecDepth 100000 in
set_option maxHeartbeats 4000000 in
theorem t_X8_stepsOut_b15 {p : Program} {l : Launch} {e : Env} {s : State} {m : MethodId} {args : Array Value} {below : List Frame} {meth : Method} {c : Code} {w : cr_Wd} (X : cr_Cx w RX8 (Cond.code yX8_stepsOut cX8_stepsOut 7 (some .int)) cX8_stepsOut 7 p s m args meth c) (x1 : Int32) (z0_15 : Int32) (V : cr_Hp)  (hr0 : meth.sig.returnType = (some .int)) (x : Int32) (h : f_X8_stepsOut_b15 x1 z0_15 V = some x) : cr_J w 7 p l e rm_X8_stepsOut s m args below meth c 0 0 (MQ below (cr_Qi w V x) args s 0 0 (cr_A w)) V 15 [(0, .ref (w.1 159)), (1, .int x1)] [.int z0_15] := by
  unfold f_X8_stepsOut_b15 at h
  refine jr_istore_n X.c (lv2 := [(2, .int z0_15), (0, .ref (w.1 159)), (1, .int x1)]) dX8_stepsOut_15 rfl (by decide) rfl ?_
  refine jr_iconst X.c (v := (1 : Int32)) dX8_stepsOut_16 (by decide) ?_
  refine jr_istore_n X.c (lv2 := [(3, .int (1 : Int32)), (2, .int z0_15), (0, .ref (w.1 159)), (1, .int x1)]) dX8_stepsOut_17 rfl (by decide) rfl ?_
  obtain ⟨e18, he18, h⟩ := cr_bd_s h
  have kx116 : ∀ (u2_18_116 : Int32), e18 = u2_18_116 → cr_J w 7 p l e rm_X8_stepsOut s m args below meth c 0 0 (MQ below (cr_Qi w V x) args s 0 0 (cr_A w)) V 116 [(2, .int u2_18_116)] [] := by
    intro u2_18_116 qx
    rw [qx] at h
    try simp only [cr_sm, cr_u2, cr_u3, cr_u4, cr_u5, cr_u6] at h
    refine jr_iload_n X.c dX8_stepsOut_116 rfl 0 rfl ?_
    cases h
    exact jr_iret X.c hr0 dX8_stepsOut_117
  refine jr_sub [2, 3, 1, 0] rfl ?_
  refine cr_it_W (f := (fun (q : Int32 × Int32) => f_X8_stepsOut_l18 x1 q.1 q.2 V)) (P := fun (q : Int32 × Int32) => cr_J w 7 p l e rm_X8_stepsOut s m args below meth c 0 0 (MQ below (cr_Qi w V x) args s 0 0 (cr_A w)) V 18 [(0, .ref (w.1 159)), (1, .int x1), (2, .int q.1), (3, .int q.2)] []) (K := fun z => z = e18) (fun q x hx kl kr => ?_) cr_FU (z0_15, (1 : Int32)) e18 he18 rfl
  obtain ⟨x2_18, x3_18⟩ := q
  exact t_X8_stepsOut_l18 X x1 x2_18 x3_18 V  x hx (fun x2_18 x3_18 ez => kl _ ez) (fun u2_18_116 ez => kx116 u2_18_116 ((kr _ ez).symm))
def f_X8_stepsOut (x1 : Int32) (V : cr_Hp) : Option (Int32) :=
  cr_bd (f_X8_ringsOfMarble x1 V) (fun (r2 : Int32) => if r2 = 0 then (f_X8_stepsOut_b15 x1 (0 : Int32) V) else (f_X8_stepsOut_b15 x1 (-1006 : Int32) V))
set_option maxRecDepth 100000 in
set_option maxHeartbeats 4000000 in
theorem t_X8_stepsOut {p : Program} {l : Launch} {e : Env} {s : State} {m : MethodId} {args : Array Value} {below : List Frame} {meth : Method} {c : Code} {w : cr_Wd} (X : cr_Cx w RX8 (Cond.code yX8_stepsOut cX8_stepsOut 7 (some .int)) cX8_stepsOut 7 p s m args meth c) (x1 : Int32) (V : cr_Hp)  (hr0 : meth.sig.returnType = (some .int)) (x : Int32) (h : f_X8_stepsOut x1 V = some x) : cr_J w 7 p l e rm_X8_stepsOut s m args below meth c 0 0 (MQ below (cr_Qi w V x) args s 0 0 (cr_A w)) V 0 [(0, .ref (w.1 159)), (1, .int x1)] [] := by
  unfold f_X8_stepsOut at h
  refine jr_aload_n X.c dX8_stepsOut_0 rfl 0 rfl ?_
  refine jr_iload_n X.c dX8_stepsOut_1 rfl 1 rfl ?_
  obtain ⟨r2, hr2, h⟩ := cr_bd_s h
  refine jc_Vi X.c (As := [.int x1]) (V1 := V) (C := RX8) (T := TX8) (N := 22) (ci := 8) 1 (m_X8_ringsOfMarble l w V x1  r2 hr2) ⟨rfl, rfl⟩ ml_X8_66 im_X8_ringsOfMarble sl_X8_ringsOfMarble in_X8 cd_X8_ringsOfMarble hd_X8_ringsOfMarble ⟨Nat.le_of_ble_eq_true rfl, Nat.le_of_ble_eq_true rfl⟩ ⟨Nat.le_of_ble_eq_true rfl, Nat.le_of_ble_eq_true rfl⟩ rfl (Nat.le_of_ble_eq_true rfl) (by decide) ((cr_row_159 w) _) rfl rfl dX8_stepsOut_2 ?_
  refine jr_if_ne X.c 12 dX8_stepsOut_5 (by decide) (fun q5 => ?_) (fun q5 => ?_)
  · replace h := cr_if_f q5 h
    refine jr_sipush X.c (v := (-1006 : Int32)) dX8_stepsOut_12 (by decide) ?_
    refine jr_sub [0, 1] rfl ?_
    exact t_X8_stepsOut_b15 X x1 (-1006 : Int32) V  hr0 x  h
  · replace h := cr_if_t q5 h
    refine jr_iconst X.c (v := (0 : Int32)) dX8_stepsOut_8 (by decide) ?_
    refine jr_goto X.c 15 dX8_stepsOut_9 (by decide) ?_
    refine jr_sub [0, 1] rfl ?_
    exact t_X8_stepsOut_b15 X x1 (0 : Int32) V  hr0 x  h
set_option maxRecDepth 100000 in
set_option maxHeartbeats 4000000 in
theorem m_X8_stepsOut (l : Launch) (w : cr_Wd) (V : cr_Hp) (x1 : Int32)  (x : Int32) (h : f_X8_stepsOut x1 V = some x) : Met l yX8_stepsOut (cr_wds yX8_stepsOut cX8_stepsOut 7 (some .int)) rm_X8_stepsOut (cr_Pc w V [.ref (w.1 159), .int x1]) (cr_Qi w V x) 0 0 (cr_A w) := by
  refine cr_met (own := RX8) (lv := [(0, .ref (w.1 159)), (1, .int x1)]) (by decide +kernel) rfl (Nat.le_of_ble_eq_true rfl) rfl (fun p e s m args below meth c X hr0 => ?_)
  exact t_X8_stepsOut X x1 V  hr0 x h
abbrev rm_X8_wayOut : Room := { frames := 5, cells := 0, slots := 0, locals := 118 }
theorem hd_X8_wayOut : yX8_wayOut.cls = RX8 ∧ yX8_wayOut.cls ≠ "java/lang/invoke/MethodHandle" ∧ yX8_wayOut.cls ≠ "java/lang/invoke/VarHandle" ∧ (parseMethodDescriptor yX8_wayOut.desc).map (fun d => d.parameters.length) = some 1 := by decide +kernel
def f_X8_wayOut (x1 : Int32) (V : cr_Hp) : Option (Int32) :=
  cr_bd (f_X8_isMarble x1 V) (fun (r2 : Int32) => if r2 = 0 then (some (-1001 : Int32)) else (cr_bd (f_X8_isThere x1 V) (fun (r14 : Int32) => if r14 = 0 then (some (-1003 : Int32)) else (cr_bd (f_X8_stepsOut x1 V) (fun (r22 : Int32) => some r22)))))
set_option maxRecDepth 100000 in
set_option maxHeartbeats 4000000 in
theorem t_X8_wayOut {p : Program} {l : Launch} {e : Env} {s : State} {m : MethodId} {args : Array Value} {below : List Frame} {meth : Method} {c : Code} {w : cr_Wd} (X : cr_Cx w RX8 (Cond.code yX8_wayOut cX8_wayOut 2 (some .int)) cX8_wayOut 2 p s m args meth c) (x1 : Int32) (V : cr_Hp)  (hr0 : meth.sig.returnType = (some .int)) (x : Int32) (h : f_X8_wayOut x1 V = some x) : cr_J w 2 p l e rm_X8_wayOut s m args below meth c 0 0 (MQ below (cr_Qi w V x) args s 0 0 (cr_A w)) V 0 [(0, .ref (w.1 159)), (1, .int x1)] [] := by
  unfold f_X8_wayOut at h
  refine jr_aload_n X.c dX8_wayOut_0 rfl 0 rfl ?_
  refine jr_iload_n X.c dX8_wayOut_1 rfl 1 rfl ?_
  obtain ⟨r2, hr2, h⟩ := cr_bd_s h
  refine jc_Vi X.c (As := [.int x1]) (V1 := V) (C := RX8) (T := TX8) (N := 22) (ci := 8) 1 (m_X8_isMarble l w V x1  r2 hr2) ⟨rfl, rfl⟩ ml_X8_95 im_X8_isMarble sl_X8_isMarble in_X8 cd_X8_isMarble hd_X8_isMarble ⟨Nat.le_of_ble_eq_true rfl, Nat.le_of_ble_eq_true rfl⟩ ⟨Nat.le_of_ble_eq_true rfl, Nat.le_of_ble_eq_true rfl⟩ rfl (Nat.le_of_ble_eq_true rfl) (by decide) ((cr_row_159 w) _) rfl rfl dX8_wayOut_2 ?_
  refine jr_if_ne X.c 12 dX8_wayOut_5 (by decide) (fun q5 => ?_) (fun q5 => ?_)
  · replace h := cr_if_f q5 h
    refine jr_aload_n X.c dX8_wayOut_12 rfl 0 rfl ?_
    refine jr_iload_n X.c dX8_wayOut_13 rfl 1 rfl ?_
    obtain ⟨r14, hr14, h⟩ := cr_bd_s h
    refine jc_Vi X.c (As := [.int x1]) (V1 := V) (C := RX8) (T := TX8) (N := 22) (ci := 8) 1 (m_X8_isThere l w V x1  r14 hr14) ⟨rfl, rfl⟩ ml_X8_56 im_X8_isThere sl_X8_isThere in_X8 cd_X8_isThere hd_X8_isThere ⟨Nat.le_of_ble_eq_true rfl, Nat.le_of_ble_eq_true rfl⟩ ⟨Nat.le_of_ble_eq_true rfl, Nat.le_of_ble_eq_true rfl⟩ rfl (Nat.le_of_ble_eq_true rfl) (by decide) ((cr_row_159 w) _) rfl rfl dX8_wayOut_14 ?_
    refine jr_if_eq X.c 28 dX8_wayOut_17 (by decide) (fun q17 => ?_) (fun q17 => ?_)
    · replace h := cr_if_t q17 h
      refine jr_sipush X.c (v := (-1003 : Int32)) dX8_wayOut_28 (by decide) ?_
      cases h
      exact jr_iret X.c hr0 dX8_wayOut_31
    · replace h := cr_if_f q17 h
      refine jr_aload_n X.c dX8_wayOut_20 rfl 0 rfl ?_
      refine jr_iload_n X.c dX8_wayOut_21 rfl 1 rfl ?_
      obtain ⟨r22, hr22, h⟩ := cr_bd_s h
      refine jc_Vi X.c (As := [.int x1]) (V1 := V) (C := RX8) (T := TX8) (N := 22) (ci := 8) 1 (m_X8_stepsOut l w V x1  r22 hr22) ⟨rfl, rfl⟩ ml_X8_148 im_X8_stepsOut sl_X8_stepsOut in_X8 cd_X8_stepsOut hd_X8_stepsOut ⟨Nat.le_of_ble_eq_true rfl, Nat.le_of_ble_eq_true rfl⟩ ⟨Nat.le_of_ble_eq_true rfl, Nat.le_of_ble_eq_true rfl⟩ rfl (Nat.le_of_ble_eq_true rfl) (by decide) ((cr_row_159 w) _) rfl rfl dX8_wayOut_22 ?_
      refine jr_goto X.c 31 dX8_wayOut_25 (by decide) ?_
      cases h
      exact jr_iret X.c hr0 dX8_wayOut_31
  · replace h := cr_if_t q5 h
    refine jr_sipush X.c (v := (-1001 : Int32)) dX8_wayOut_8 (by decide) ?_
    cases h
    exact jr_iret X.c hr0 dX8_wayOut_11
set_option maxRecDepth 100000 in
set_option maxHeartbeats 4000000 in
theorem m_X8_wayOut (l : Launch) (w : cr_Wd) (V : cr_Hp) (x1 : Int32)  (x : Int32) (h : f_X8_wayOut x1 V = some x) : Met l yX8_wayOut (cr_wds yX8_wayOut cX8_wayOut 2 (some .int)) rm_X8_wayOut (cr_Pc w V [.ref (w.1 159), .int x1]) (cr_Qi w V x) 0 0 (cr_A w) := by
  refine cr_met (own := RX8) (lv := [(0, .ref (w.1 159)), (1, .int x1)]) (by decide +kernel) rfl (Nat.le_of_ble_eq_true rfl) rfl (fun p e s m args below meth c X hr0 => ?_)
  exact t_X8_wayOut X x1 V  hr0 x h
abbrev rm_X8_type : Room := { frames := 1, cells := 0, slots := 0, locals := 22 }
theorem hd_X8_type : yX8_type.cls = RX8 ∧ yX8_type.cls ≠ "java/lang/invoke/MethodHandle" ∧ yX8_type.cls ≠ "java/lang/invoke/VarHandle" ∧ (parseMethodDescriptor yX8_type.desc).map (fun d => d.parameters.length) = some 1 := by decide +kernel
def f_X8_type (x1 : Int32) (V : cr_Hp) : Option (Int32 × cr_Hp) :=
  cr_bd (f_X8_within x1 (33 : Int32) (126 : Int32)) (fun (r5 : Int32) => if r5 = 0 then (some ((-1002 : Int32), V)) else (if (V 159 5) = (80 : Int32) then (some ((-1004 : Int32), V)) else (cr_gd (cr_ix (V 159 5) 80) (cr_lt (cr_pt V 163 (V 159 5).toNatClampNeg x1) (fun (V37 : cr_Hp) => cr_lt (cr_pt V37 159 5 ((V37 159 5) + (1 : Int32))) (fun (V45 : cr_Hp) => some ((V45 159 5), V45)))))))
set_option maxRecDepth 100000 in
set_option maxHeartbeats 4000000 in
theorem t_X8_type {p : Program} {l : Launch} {e : Env} {s : State} {m : MethodId} {args : Array Value} {below : List Frame} {meth : Method} {c : Code} {w : cr_Wd} (X : cr_Cx w RX8 (Cond.code yX8_type cX8_type 2 (some .int)) cX8_type 2 p s m args meth c) (x1 : Int32) (V : cr_Hp)  (hr0 : meth.sig.returnType = (some .int)) (x : Int32 × cr_Hp) (h : f_X8_type x1 V = some x) : cr_J w 2 p l e rm_X8_type s m args below meth c 0 0 (MQ below (cr_Qi w x.2 x.1) args s 0 0 (cr_A w)) V 0 [(0, .ref (w.1 159)), (1, .int x1)] [] := by
  unfold f_X8_type at h
  refine jr_iload_n X.c dX8_type_0 rfl 1 rfl ?_
  refine jr_bipush X.c (v := (33 : Int32)) dX8_type_1 (by decide) ?_
  refine jr_bipush X.c (v := (126 : Int32)) dX8_type_3 (by decide) ?_
  obtain ⟨r5, hr5, h⟩ := cr_bd_s h
  refine jc_Si X.c (As := [.int x1, .int (33 : Int32), .int (126 : Int32)]) (V1 := V) 3 (m_X8_within l w V x1 (33 : Int32) (126 : Int32)  r5 hr5) ⟨rfl, rfl⟩ ml_X8_39 st_X8_within in_X8 cd_X8_within hd_X8_within ⟨Nat.le_of_ble_eq_true rfl, Nat.le_of_ble_eq_true rfl⟩ ⟨Nat.le_of_ble_eq_true rfl, Nat.le_of_ble_eq_true rfl⟩ rfl (Nat.le_of_ble_eq_true rfl) rfl dX8_type_5 ?_
  refine jr_if_ne X.c 15 dX8_type_8 (by decide) (fun q8 => ?_) (fun q8 => ?_)
  · replace h := cr_if_f q8 h
    refine jr_aload_n X.c dX8_type_15 rfl 0 rfl ?_
    refine jr_get X.c (ci := 8) (C := RX8) (T := TX8) (N := 22) (k := 5) rfl cr_in8 (by decide) ((cr_row_159 w) _) rfl (by decide) fl_X8_151 dX8_type_16 ?_
    refine jr_bipush X.c (v := (80 : Int32)) dX8_type_19 (by decide) ?_
    refine jr_icmp_ne X.c 28 dX8_type_21 (by decide) (fun q21 => ?_) (fun q21 => ?_)
    · replace h := cr_if_f q21 h
      refine jr_aload_n X.c dX8_type_28 rfl 0 rfl ?_
      refine jr_get X.c (ci := 8) (C := RX8) (T := TX8) (N := 22) (k := 4) rfl cr_in8 (by decide) ((cr_row_159 w) _) rfl (by decide) fl_X8_19 dX8_type_29 ?_
      refine jr_aload_n X.c dX8_type_32 rfl 0 rfl ?_
      refine jr_get X.c (ci := 8) (C := RX8) (T := TX8) (N := 22) (k := 5) rfl cr_in8 (by decide) ((cr_row_159 w) _) rfl (by decide) fl_X8_151 dX8_type_33 ?_
      refine jr_iload_n X.c dX8_type_36 rfl 1 rfl ?_
      obtain ⟨hi37, h⟩ := cr_gd_s h
      obtain ⟨V37, eV37, h⟩ := cr_lt_s h
      refine jr_iast X.c (by decide) (cr_row_163 w) hi37 dX8_type_37 eV37 ?_
      refine jr_aload_n X.c dX8_type_38 rfl 0 rfl ?_
      refine jr_dup X.c dX8_type_39 rfl ?_
      refine jr_get X.c (ci := 8) (C := RX8) (T := TX8) (N := 22) (k := 5) rfl cr_in8 (by decide) ((cr_row_159 w) _) rfl (by decide) fl_X8_151 dX8_type_40 ?_
      refine jr_iconst X.c (v := (1 : Int32)) dX8_type_43 (by decide) ?_
      refine jr_iadd X.c dX8_type_44 ?_
      obtain ⟨V45, eV45, h⟩ := cr_lt_s h
      refine jr_put X.c (ci := 8) (C := RX8) (T := TX8) (N := 22) (k := 5) rfl cr_in8 tyX8 tyX8_ok nmX8 (by decide) (cr_row_159 w) rfl (Nat.le_of_ble_eq_true rfl) (by decide) rfl rfl rfl fl_X8_151 dX8_type_45 eV45 ?_
      refine jr_aload_n X.c dX8_type_48 rfl 0 rfl ?_
      refine jr_get X.c (ci := 8) (C := RX8) (T := TX8) (N := 22) (k := 5) rfl cr_in8 (by decide) ((cr_row_159 w) _) rfl (by decide) fl_X8_151 dX8_type_49 ?_
      cases h
      exact jr_iret X.c hr0 dX8_type_52
    · replace h := cr_if_t q21 h
      refine jr_sipush X.c (v := (-1004 : Int32)) dX8_type_24 (by decide) ?_
      cases h
      exact jr_iret X.c hr0 dX8_type_27
  · replace h := cr_if_t q8 h
    refine jr_sipush X.c (v := (-1002 : Int32)) dX8_type_11 (by decide) ?_
    cases h
    exact jr_iret X.c hr0 dX8_type_14
set_option maxRecDepth 100000 in
set_option maxHeartbeats 4000000 in
theorem m_X8_type (l : Launch) (w : cr_Wd) (V : cr_Hp) (x1 : Int32)  (x : Int32 × cr_Hp) (h : f_X8_type x1 V = some x) : Met l yX8_type (cr_wds yX8_type cX8_type 2 (some .int)) rm_X8_type (cr_Pc w V [.ref (w.1 159), .int x1]) (cr_Qi w x.2 x.1) 0 0 (cr_A w) := by
  refine cr_met (own := RX8) (lv := [(0, .ref (w.1 159)), (1, .int x1)]) (by decide +kernel) rfl (Nat.le_of_ble_eq_true rfl) rfl (fun p e s m args below meth c X hr0 => ?_)
  exact t_X8_type X x1 V  hr0 x h
abbrev rm_X8_clearText : Room := { frames := 0, cells := 0, slots := 0, locals := 0 }
theorem hd_X8_clearText : yX8_clearText.cls = RX8 ∧ yX8_clearText.cls ≠ "java/lang/invoke/MethodHandle" ∧ yX8_clearText.cls ≠ "java/lang/invoke/VarHandle" ∧ (parseMethodDescriptor yX8_clearText.desc).map (fun d => d.parameters.length) = some 0 := by decide +kernel
def f_X8_clearText  (V : cr_Hp) : Option (Int32 × cr_Hp) :=
  cr_lt ((V 159 5)) (fun (n4 : Int32) => cr_lt (cr_pt V 159 5 (0 : Int32)) (fun (V7 : cr_Hp) => some (n4, V7)))
set_option maxRecDepth 100000 in
set_option maxHeartbeats 4000000 in
theorem t_X8_clearText {p : Program} {l : Launch} {e : Env} {s : State} {m : MethodId} {args : Array Value} {below : List Frame} {meth : Method} {c : Code} {w : cr_Wd} (X : cr_Cx w RX8 (Cond.code yX8_clearText cX8_clearText 2 (some .int)) cX8_clearText 2 p s m args meth c)  (V : cr_Hp)  (hr0 : meth.sig.returnType = (some .int)) (x : Int32 × cr_Hp) (h : f_X8_clearText  V = some x) : cr_J w 2 p l e rm_X8_clearText s m args below meth c 0 0 (MQ below (cr_Qi w x.2 x.1) args s 0 0 (cr_A w)) V 0 [(0, .ref (w.1 159))] [] := by
  unfold f_X8_clearText at h
  refine jr_aload_n X.c dX8_clearText_0 rfl 0 rfl ?_
  refine jr_get X.c (ci := 8) (C := RX8) (T := TX8) (N := 22) (k := 5) rfl cr_in8 (by decide) ((cr_row_159 w) _) rfl (by decide) fl_X8_151 dX8_clearText_1 ?_
  obtain ⟨n4, en4, h⟩ := cr_lt_s h
  refine jr_top en4 ?_
  refine jr_istore_n X.c (lv2 := [(1, .int n4), (0, .ref (w.1 159))]) dX8_clearText_4 rfl (by decide) rfl ?_
  refine jr_aload_n X.c dX8_clearText_5 rfl 1 rfl ?_
  refine jr_iconst X.c (v := (0 : Int32)) dX8_clearText_6 (by decide) ?_
  obtain ⟨V7, eV7, h⟩ := cr_lt_s h
  refine jr_put X.c (ci := 8) (C := RX8) (T := TX8) (N := 22) (k := 5) rfl cr_in8 tyX8 tyX8_ok nmX8 (by decide) (cr_row_159 w) rfl (Nat.le_of_ble_eq_true rfl) (by decide) rfl rfl rfl fl_X8_151 dX8_clearText_7 eV7 ?_
  refine jr_iload_n X.c dX8_clearText_10 rfl 0 rfl ?_
  cases h
  exact jr_iret X.c hr0 dX8_clearText_11
set_option maxRecDepth 100000 in
set_option maxHeartbeats 4000000 in
theorem m_X8_clearText (l : Launch) (w : cr_Wd) (V : cr_Hp)   (x : Int32 × cr_Hp) (h : f_X8_clearText  V = some x) : Met l yX8_clearText (cr_wds yX8_clearText cX8_clearText 2 (some .int)) rm_X8_clearText (cr_Pc w V [.ref (w.1 159)]) (cr_Qi w x.2 x.1) 0 0 (cr_A w) := by
  refine cr_met (own := RX8) (lv := [(0, .ref (w.1 159))]) (by decide +kernel) rfl (Nat.le_of_ble_eq_true rfl) rfl (fun p e s m args below meth c X hr0 => ?_)
  exact t_X8_clearText X  V  hr0 x h
abbrev rm_X8_character : Room := { frames := 0, cells := 0, slots := 0, locals := 0 }
theorem hd_X8_character : yX8_character.cls = RX8 ∧ yX8_character.cls ≠ "java/lang/invoke/MethodHandle" ∧ yX8_character.cls ≠ "java/lang/invoke/VarHandle" ∧ (parseMethodDescriptor yX8_character.desc).map (fun d => d.parameters.length) = some 1 := by decide +kernel
def f_X8_character (x1 : Int32) (V : cr_Hp) : Option (Int32) :=
  if (V 159 5) ≤ x1 then (some (-1 : Int32)) else (cr_gd (cr_ix x1 80) (some (V 163 x1.toNatClampNeg)))
set_option maxRecDepth 100000 in
set_option maxHeartbeats 4000000 in
theorem t_X8_character {p : Program} {l : Launch} {e : Env} {s : State} {m : MethodId} {args : Array Value} {below : List Frame} {meth : Method} {c : Code} {w : cr_Wd} (X : cr_Cx w RX8 (Cond.code yX8_character cX8_character 2 (some .int)) cX8_character 2 p s m args meth c) (x1 : Int32) (V : cr_Hp)  (hr0 : meth.sig.returnType = (some .int)) (x : Int32) (h : f_X8_character x1 V = some x) : cr_J w 2 p l e rm_X8_character s m args below meth c 0 0 (MQ below (cr_Qi w V x) args s 0 0 (cr_A w)) V 0 [(0, .ref (w.1 159)), (1, .int x1)] [] := by
  unfold f_X8_character at h
  refine jr_iload_n X.c dX8_character_0 rfl 1 rfl ?_
  refine jr_aload_n X.c dX8_character_1 rfl 0 rfl ?_
  refine jr_get X.c (ci := 8) (C := RX8) (T := TX8) (N := 22) (k := 5) rfl cr_in8 (by decide) ((cr_row_159 w) _) rfl (by decide) fl_X8_151 dX8_character_2 ?_
  refine jr_icmp_ge X.c 17 dX8_character_5 (by decide) (fun q5 => ?_) (fun q5 => ?_)
  · replace h := cr_if_t q5 h
    refine jr_iconst X.c (v := (-1 : Int32)) dX8_character_17 (by decide) ?_
    cases h
    exact jr_iret X.c hr0 dX8_character_18
  · replace h := cr_if_f q5 h
    refine jr_aload_n X.c dX8_character_8 rfl 0 rfl ?_
    refine jr_get X.c (ci := 8) (C := RX8) (T := TX8) (N := 22) (k := 4) rfl cr_in8 (by decide) ((cr_row_159 w) _) rfl (by decide) fl_X8_19 dX8_character_9 ?_
    refine jr_iload_n X.c dX8_character_12 rfl 1 rfl ?_
    obtain ⟨hi13, h⟩ := cr_gd_s h
    refine jr_iald X.c (by decide) ((cr_row_163 w) _) hi13 dX8_character_13 ?_
    refine jr_goto X.c 18 dX8_character_14 (by decide) ?_
    cases h
    exact jr_iret X.c hr0 dX8_character_18
set_option maxRecDepth 100000 in
set_option maxHeartbeats 4000000 in
theorem m_X8_character (l : Launch) (w : cr_Wd) (V : cr_Hp) (x1 : Int32)  (x : Int32) (h : f_X8_character x1 V = some x) : Met l yX8_character (cr_wds yX8_character cX8_character 2 (some .int)) rm_X8_character (cr_Pc w V [.ref (w.1 159), .int x1]) (cr_Qi w V x) 0 0 (cr_A w) := by
  refine cr_met (own := RX8) (lv := [(0, .ref (w.1 159)), (1, .int x1)]) (by decide +kernel) rfl (Nat.le_of_ble_eq_true rfl) rfl (fun p e s m args below meth c X hr0 => ?_)
  exact t_X8_character X x1 V  hr0 x h
abbrev rm_X8_readsDigit : Room := { frames := 1, cells := 0, slots := 0, locals := 22 }
theorem hd_X8_readsDigit : yX8_readsDigit.cls = RX8 ∧ yX8_readsDigit.cls ≠ "java/lang/invoke/MethodHandle" ∧ yX8_readsDigit.cls ≠ "java/lang/invoke/VarHandle" ∧ (parseMethodDescriptor yX8_readsDigit.desc).map (fun d => d.parameters.length) = some 2 := by decide +kernel
def f_X8_readsDigit (x1 : Int32) (x2 : Int32) (V : cr_Hp) : Option (Int32 × cr_Hp) :=
  cr_bd (f_X8_character (V 159 15) V) (fun (r5 : Int32) => cr_bd (f_X8_within r5 ((48 : Int32) + x1) ((48 : Int32) + x2)) (fun (r16 : Int32) => cr_bd (f_X8_character (V 159 15) V) (fun (r26 : Int32) => cr_lt (cr_pt V 159 17 (r26 - (48 : Int32))) (fun (V32 : cr_Hp) => if r16 = 0 then (cr_lt (cr_pt V32 159 15 ((V32 159 15) + (0 : Int32))) (fun (V50 : cr_Hp) => cr_gd (cr_bo r16) (some (r16, V50)))) else (cr_lt (cr_pt V32 159 15 ((V32 159 15) + (1 : Int32))) (fun (V50 : cr_Hp) => cr_gd (cr_bo r16) (some (r16, V50))))))))
set_option maxRecDepth 100000 in
set_option maxHeartbeats 4000000 in
theorem t_X8_readsDigit {p : Program} {l : Launch} {e : Env} {s : State} {m : MethodId} {args : Array Value} {below : List Frame} {meth : Method} {c : Code} {w : cr_Wd} (X : cr_Cx w RX8 (Cond.code yX8_readsDigit cX8_readsDigit 4 (some .boolean)) cX8_readsDigit 4 p s m args meth c) (x1 : Int32) (x2 : Int32) (V : cr_Hp)  (hr0 : meth.sig.returnType = (some .boolean)) (x : Int32 × cr_Hp) (h : f_X8_readsDigit x1 x2 V = some x) : cr_J w 4 p l e rm_X8_readsDigit s m args below meth c 0 0 (MQ below (cr_Qi w x.2 x.1) args s 0 0 (cr_A w)) V 0 [(0, .ref (w.1 159)), (1, .int x1), (2, .int x2)] [] := by
  unfold f_X8_readsDigit at h
  refine jr_aload_n X.c dX8_readsDigit_0 rfl 0 rfl ?_
  refine jr_aload_n X.c dX8_readsDigit_1 rfl 0 rfl ?_
  refine jr_get X.c (ci := 8) (C := RX8) (T := TX8) (N := 22) (k := 15) rfl cr_in8 (by decide) ((cr_row_159 w) _) rfl (by decide) fl_X8_154 dX8_readsDigit_2 ?_
  obtain ⟨r5, hr5, h⟩ := cr_bd_s h
  refine jc_Vi X.c (As := [.int (V 159 15)]) (V1 := V) (C := RX8) (T := TX8) (N := 22) (ci := 8) 1 (m_X8_character l w V (V 159 15)  r5 hr5) ⟨rfl, rfl⟩ ml_X8_157 im_X8_character sl_X8_character in_X8 cd_X8_character hd_X8_character ⟨Nat.le_of_ble_eq_true rfl, Nat.le_of_ble_eq_true rfl⟩ ⟨Nat.le_of_ble_eq_true rfl, Nat.le_of_ble_eq_true rfl⟩ rfl (Nat.le_of_ble_eq_true rfl) (by decide) ((cr_row_159 w) _) rfl rfl dX8_readsDigit_5 ?_
  refine jr_bipush X.c (v := (48 : Int32)) dX8_readsDigit_8 (by decide) ?_
  refine jr_iload_n X.c dX8_readsDigit_10 rfl 1 rfl ?_
  refine jr_iadd X.c dX8_readsDigit_11 ?_
  refine jr_bipush X.c (v := (48 : Int32)) dX8_readsDigit_12 (by decide) ?_
  refine jr_iload_n X.c dX8_readsDigit_14 rfl 2 rfl ?_
  refine jr_iadd X.c dX8_readsDigit_15 ?_
  obtain ⟨r16, hr16, h⟩ := cr_bd_s h
  refine jc_Si X.c (As := [.int r5, .int ((48 : Int32) + x1), .int ((48 : Int32) + x2)]) (V1 := V) 3 (m_X8_within l w V r5 ((48 : Int32) + x1) ((48 : Int32) + x2)  r16 hr16) ⟨rfl, rfl⟩ ml_X8_39 st_X8_within in_X8 cd_X8_within hd_X8_within ⟨Nat.le_of_ble_eq_true rfl, Nat.le_of_ble_eq_true rfl⟩ ⟨Nat.le_of_ble_eq_true rfl, Nat.le_of_ble_eq_true rfl⟩ rfl (Nat.le_of_ble_eq_true rfl) rfl dX8_readsDigit_16 ?_
  refine jr_istore_n X.c (lv2 := [(3, .int r16), (0, .ref (w.1 159)), (1, .int x1), (2, .int x2)]) dX8_readsDigit_19 rfl (by decide) rfl ?_
  refine jr_aload_n X.c dX8_readsDigit_20 rfl 1 rfl ?_
  refine jr_aload_n X.c dX8_readsDigit_21 rfl 1 rfl ?_
  refine jr_aload_n X.c dX8_readsDigit_22 rfl 1 rfl ?_
  refine jr_get X.c (ci := 8) (C := RX8) (T := TX8) (N := 22) (k := 15) rfl cr_in8 (by decide) ((cr_row_159 w) _) rfl (by decide) fl_X8_154 dX8_readsDigit_23 ?_
  obtain ⟨r26, hr26, h⟩ := cr_bd_s h
  refine jc_Vi X.c (As := [.int (V 159 15)]) (V1 := V) (C := RX8) (T := TX8) (N := 22) (ci := 8) 1 (m_X8_character l w V (V 159 15)  r26 hr26) ⟨rfl, rfl⟩ ml_X8_157 im_X8_character sl_X8_character in_X8 cd_X8_character hd_X8_character ⟨Nat.le_of_ble_eq_true rfl, Nat.le_of_ble_eq_true rfl⟩ ⟨Nat.le_of_ble_eq_true rfl, Nat.le_of_ble_eq_true rfl⟩ rfl (Nat.le_of_ble_eq_true rfl) (by decide) ((cr_row_159 w) _) rfl rfl dX8_readsDigit_26 ?_
  refine jr_bipush X.c (v := (48 : Int32)) dX8_readsDigit_29 (by decide) ?_
  refine jr_isub X.c dX8_readsDigit_31 ?_
  obtain ⟨V32, eV32, h⟩ := cr_lt_s h
  refine jr_put X.c (ci := 8) (C := RX8) (T := TX8) (N := 22) (k := 17) rfl cr_in8 tyX8 tyX8_ok nmX8 (by decide) (cr_row_159 w) rfl (Nat.le_of_ble_eq_true rfl) (by decide) rfl rfl rfl fl_X8_160 dX8_readsDigit_32 eV32 ?_
  refine jr_aload_n X.c dX8_readsDigit_35 rfl 1 rfl ?_
  refine jr_dup X.c dX8_readsDigit_36 rfl ?_
  refine jr_get X.c (ci := 8) (C := RX8) (T := TX8) (N := 22) (k := 15) rfl cr_in8 (by decide) ((cr_row_159 w) _) rfl (by decide) fl_X8_154 dX8_readsDigit_37 ?_
  refine jr_iload_n X.c dX8_readsDigit_40 rfl 0 rfl ?_
  refine jr_if_eq X.c 48 dX8_readsDigit_41 (by decide) (fun q41 => ?_) (fun q41 => ?_)
  · replace h := cr_if_t q41 h
    refine jr_iconst X.c (v := (0 : Int32)) dX8_readsDigit_48 (by decide) ?_
    refine jr_iadd X.c dX8_readsDigit_49 ?_
    obtain ⟨V50, eV50, h⟩ := cr_lt_s h
    refine jr_put X.c (ci := 8) (C := RX8) (T := TX8) (N := 22) (k := 15) rfl cr_in8 tyX8 tyX8_ok nmX8 (by decide) (cr_row_159 w) rfl (Nat.le_of_ble_eq_true rfl) (by decide) rfl rfl rfl fl_X8_154 dX8_readsDigit_50 eV50 ?_
    refine jr_iload_n X.c dX8_readsDigit_53 rfl 0 rfl ?_
    obtain ⟨hk54, h⟩ := cr_gd_s h
    cases h
    exact jr_zret X.c hr0 (cr_nb hk54) dX8_readsDigit_54
  · replace h := cr_if_f q41 h
    refine jr_iconst X.c (v := (1 : Int32)) dX8_readsDigit_44 (by decide) ?_
    refine jr_goto X.c 49 dX8_readsDigit_45 (by decide) ?_
    refine jr_iadd X.c dX8_readsDigit_49 ?_
    obtain ⟨V50, eV50, h⟩ := cr_lt_s h
    refine jr_put X.c (ci := 8) (C := RX8) (T := TX8) (N := 22) (k := 15) rfl cr_in8 tyX8 tyX8_ok nmX8 (by decide) (cr_row_159 w) rfl (Nat.le_of_ble_eq_true rfl) (by decide) rfl rfl rfl fl_X8_154 dX8_readsDigit_50 eV50 ?_
    refine jr_iload_n X.c dX8_readsDigit_53 rfl 0 rfl ?_
    obtain ⟨hk54, h⟩ := cr_gd_s h
    cases h
    exact jr_zret X.c hr0 (cr_nb hk54) dX8_readsDigit_54
set_option maxRecDepth 100000 in
set_option maxHeartbeats 4000000 in
theorem m_X8_readsDigit (l : Launch) (w : cr_Wd) (V : cr_Hp) (x1 : Int32) (x2 : Int32)  (x : Int32 × cr_Hp) (h : f_X8_readsDigit x1 x2 V = some x) : Met l yX8_readsDigit (cr_wds yX8_readsDigit cX8_readsDigit 4 (some .boolean)) rm_X8_readsDigit (cr_Pc w V [.ref (w.1 159), .int x1, .int x2]) (cr_Qi w x.2 x.1) 0 0 (cr_A w) := by
  refine cr_met (own := RX8) (lv := [(0, .ref (w.1 159)), (1, .int x1), (2, .int x2)]) (by decide +kernel) rfl (Nat.le_of_ble_eq_true rfl) rfl (fun p e s m args below meth c X hr0 => ?_)
  exact t_X8_readsDigit X x1 x2 V  hr0 x h
abbrev rm_X8_readsNumber : Room := { frames := 2, cells := 0, slots := 0, locals := 45 }
theorem hd_X8_readsNumber : yX8_readsNumber.cls = RX8 ∧ yX8_readsNumber.cls ≠ "java/lang/invoke/MethodHandle" ∧ yX8_readsNumber.cls ≠ "java/lang/invoke/VarHandle" ∧ (parseMethodDescriptor yX8_readsNumber.desc).map (fun d => d.parameters.length) = some 2 := by decide +kernel
def f_X8_readsNumber (x1 : Int32) (x2 : Int32) (V : cr_Hp) : Option (Int32 × cr_Hp) :=
  cr_b2 (f_X8_readsDigit x1 (9 : Int32) V) (fun (r4 : Int32) (V4 : cr_Hp) => if r4 = 0 then (some ((0 : Int32), V4)) else (cr_bd (f_X8_character (V4 159 15) V4) (fun (r24 : Int32) => cr_lt (((((10 : Int32) * (V4 159 17)) + r24) - (48 : Int32))) (fun (n31 : Int32) => if (V4 159 17) ≤ 0 then (some ((1 : Int32), V4)) else (cr_bd (f_X8_character (V4 159 15) V4) (fun (r44 : Int32) => cr_bd (f_X8_within r44 (48 : Int32) (57 : Int32)) (fun (r51 : Int32) => if r51 = 0 then (some ((1 : Int32), V4)) else (if x2 < n31 then (some ((1 : Int32), V4)) else (cr_lt (cr_pt V4 159 17 n31) (fun (V64 : cr_Hp) => cr_lt (cr_pt V64 159 15 ((V64 159 15) + (1 : Int32))) (fun (V74 : cr_Hp) => some ((1 : Int32), V74))))))))))))
set_option maxRecDepth 100000 in
set_option maxHeartbeats 4000000 in
theorem t_X8_readsNumber {p : Program} {l : Launch} {e : Env} {s : State} {m : MethodId} {args : Array Value} {below : List Frame} {meth : Method} {c : Code} {w : cr_Wd} (X : cr_Cx w RX8 (Cond.code yX8_readsNumber cX8_readsNumber 4 (some .boolean)) cX8_readsNumber 4 p s m args meth c) (x1 : Int32) (x2 : Int32) (V : cr_Hp)  (hr0 : meth.sig.returnType = (some .boolean)) (x : Int32 × cr_Hp) (h : f_X8_readsNumber x1 x2 V = some x) : cr_J w 4 p l e rm_X8_readsNumber s m args below meth c 0 0 (MQ below (cr_Qi w x.2 x.1) args s 0 0 (cr_A w)) V 0 [(0, .ref (w.1 159)), (1, .int x1), (2, .int x2)] [] := by
  unfold f_X8_readsNumber at h
  refine jr_aload_n X.c dX8_readsNumber_0 rfl 0 rfl ?_
  refine jr_iload_n X.c dX8_readsNumber_1 rfl 1 rfl ?_
  refine jr_bipush X.c (v := (9 : Int32)) dX8_readsNumber_2 (by decide) ?_
  obtain ⟨r4, V4, hr4, h⟩ := cr_b2_s h
  refine jc_Vi X.c (As := [.int x1, .int (9 : Int32)]) (V1 := V4) (C := RX8) (T := TX8) (N := 22) (ci := 8) 2 (m_X8_readsDigit l w V x1 (9 : Int32)  (r4, V4) hr4) ⟨rfl, rfl⟩ ml_X8_163 im_X8_readsDigit sl_X8_readsDigit in_X8 cd_X8_readsDigit hd_X8_readsDigit ⟨Nat.le_of_ble_eq_true rfl, Nat.le_of_ble_eq_true rfl⟩ ⟨Nat.le_of_ble_eq_true rfl, Nat.le_of_ble_eq_true rfl⟩ rfl (Nat.le_of_ble_eq_true rfl) (by decide) ((cr_row_159 w) _) rfl rfl dX8_readsNumber_4 ?_
  refine jr_if_ne X.c 12 dX8_readsNumber_7 (by decide) (fun q7 => ?_) (fun q7 => ?_)
  · replace h := cr_if_f q7 h
    refine jr_bipush X.c (v := (10 : Int32)) dX8_readsNumber_12 (by decide) ?_
    refine jr_aload_n X.c dX8_readsNumber_14 rfl 0 rfl ?_
    refine jr_get X.c (ci := 8) (C := RX8) (T := TX8) (N := 22) (k := 17) rfl cr_in8 (by decide) ((cr_row_159 w) _) rfl (by decide) fl_X8_160 dX8_readsNumber_15 ?_
    refine jr_imul X.c dX8_readsNumber_18 ?_
    refine jr_aload_n X.c dX8_readsNumber_19 rfl 0 rfl ?_
    refine jr_aload_n X.c dX8_readsNumber_20 rfl 0 rfl ?_
    refine jr_get X.c (ci := 8) (C := RX8) (T := TX8) (N := 22) (k := 15) rfl cr_in8 (by decide) ((cr_row_159 w) _) rfl (by decide) fl_X8_154 dX8_readsNumber_21 ?_
    obtain ⟨r24, hr24, h⟩ := cr_bd_s h
    refine jc_Vi X.c (As := [.int (V4 159 15)]) (V1 := V4) (C := RX8) (T := TX8) (N := 22) (ci := 8) 1 (m_X8_character l w V4 (V4 159 15)  r24 hr24) ⟨rfl, rfl⟩ ml_X8_157 im_X8_character sl_X8_character in_X8 cd_X8_character hd_X8_character ⟨Nat.le_of_ble_eq_true rfl, Nat.le_of_ble_eq_true rfl⟩ ⟨Nat.le_of_ble_eq_true rfl, Nat.le_of_ble_eq_true rfl⟩ rfl (Nat.le_of_ble_eq_true rfl) (by decide) ((cr_row_159 w) _) rfl rfl dX8_readsNumber_24 ?_
    refine jr_iadd X.c dX8_readsNumber_27 ?_
    refine jr_bipush X.c (v := (48 : Int32)) dX8_readsNumber_28 (by decide) ?_
    refine jr_isub X.c dX8_readsNumber_30 ?_
    obtain ⟨n31, en31, h⟩ := cr_lt_s h
    refine jr_top en31 ?_
    refine jr_istore_n X.c (lv2 := [(3, .int n31), (0, .ref (w.1 159)), (1, .int x1), (2, .int x2)]) dX8_readsNumber_31 rfl (by decide) rfl ?_
    refine jr_aload_n X.c dX8_readsNumber_32 rfl 1 rfl ?_
    refine jr_get X.c (ci := 8) (C := RX8) (T := TX8) (N := 22) (k := 17) rfl cr_in8 (by decide) ((cr_row_159 w) _) rfl (by decide) fl_X8_160 dX8_readsNumber_33 ?_
    refine jr_if_le X.c 77 dX8_readsNumber_36 (by decide) (fun q36 => ?_) (fun q36 => ?_)
    · replace h := cr_if_t q36 h
      refine jr_iconst X.c (v := (1 : Int32)) dX8_readsNumber_77 (by decide) ?_
      cases h
      exact jr_zret X.c (r := (1 : Int32)) hr0 (by decide) dX8_readsNumber_78
    · replace h := cr_if_f q36 h
      refine jr_aload_n X.c dX8_readsNumber_39 rfl 1 rfl ?_
      refine jr_aload_n X.c dX8_readsNumber_40 rfl 1 rfl ?_
      refine jr_get X.c (ci := 8) (C := RX8) (T := TX8) (N := 22) (k := 15) rfl cr_in8 (by decide) ((cr_row_159 w) _) rfl (by decide) fl_X8_154 dX8_readsNumber_41 ?_
      obtain ⟨r44, hr44, h⟩ := cr_bd_s h
      refine jc_Vi X.c (As := [.int (V4 159 15)]) (V1 := V4) (C := RX8) (T := TX8) (N := 22) (ci := 8) 1 (m_X8_character l w V4 (V4 159 15)  r44 hr44) ⟨rfl, rfl⟩ ml_X8_157 im_X8_character sl_X8_character in_X8 cd_X8_character hd_X8_character ⟨Nat.le_of_ble_eq_true rfl, Nat.le_of_ble_eq_true rfl⟩ ⟨Nat.le_of_ble_eq_true rfl, Nat.le_of_ble_eq_true rfl⟩ rfl (Nat.le_of_ble_eq_true rfl) (by decide) ((cr_row_159 w) _) rfl rfl dX8_readsNumber_44 ?_
      refine jr_bipush X.c (v := (48 : Int32)) dX8_readsNumber_47 (by decide) ?_
      refine jr_bipush X.c (v := (57 : Int32)) dX8_readsNumber_49 (by decide) ?_
      obtain ⟨r51, hr51, h⟩ := cr_bd_s h
      refine jc_Si X.c (As := [.int r44, .int (48 : Int32), .int (57 : Int32)]) (V1 := V4) 3 (m_X8_within l w V4 r44 (48 : Int32) (57 : Int32)  r51 hr51) ⟨rfl, rfl⟩ ml_X8_39 st_X8_within in_X8 cd_X8_within hd_X8_within ⟨Nat.le_of_ble_eq_true rfl, Nat.le_of_ble_eq_true rfl⟩ ⟨Nat.le_of_ble_eq_true rfl, Nat.le_of_ble_eq_true rfl⟩ rfl (Nat.le_of_ble_eq_true rfl) rfl dX8_readsNumber_51 ?_
      refine jr_if_eq X.c 77 dX8_readsNumber_54 (by decide) (fun q54 => ?_) (fun q54 => ?_)
      · replace h := cr_if_t q54 h
        refine jr_iconst X.c (v := (1 : Int32)) dX8_readsNumber_77 (by decide) ?_
        cases h
        exact jr_zret X.c (r := (1 : Int32)) hr0 (by decide) dX8_readsNumber_78
      · replace h := cr_if_f q54 h
        refine jr_iload_n X.c dX8_readsNumber_57 rfl 0 rfl ?_
        refine jr_iload_n X.c dX8_readsNumber_58 rfl 3 rfl ?_
        refine jr_icmp_gt X.c 77 dX8_readsNumber_59 (by decide) (fun q59 => ?_) (fun q59 => ?_)
        · replace h := cr_if_t q59 h
          refine jr_iconst X.c (v := (1 : Int32)) dX8_readsNumber_77 (by decide) ?_
          cases h
          exact jr_zret X.c (r := (1 : Int32)) hr0 (by decide) dX8_readsNumber_78
        · replace h := cr_if_f q59 h
          refine jr_aload_n X.c dX8_readsNumber_62 rfl 1 rfl ?_
          refine jr_iload_n X.c dX8_readsNumber_63 rfl 0 rfl ?_
          obtain ⟨V64, eV64, h⟩ := cr_lt_s h
          refine jr_put X.c (ci := 8) (C := RX8) (T := TX8) (N := 22) (k := 17) rfl cr_in8 tyX8 tyX8_ok nmX8 (by decide) (cr_row_159 w) rfl (Nat.le_of_ble_eq_true rfl) (by decide) rfl rfl rfl fl_X8_160 dX8_readsNumber_64 eV64 ?_
          refine jr_aload_n X.c dX8_readsNumber_67 rfl 1 rfl ?_
          refine jr_dup X.c dX8_readsNumber_68 rfl ?_
          refine jr_get X.c (ci := 8) (C := RX8) (T := TX8) (N := 22) (k := 15) rfl cr_in8 (by decide) ((cr_row_159 w) _) rfl (by decide) fl_X8_154 dX8_readsNumber_69 ?_
          refine jr_iconst X.c (v := (1 : Int32)) dX8_readsNumber_72 (by decide) ?_
          refine jr_iadd X.c dX8_readsNumber_73 ?_
          obtain ⟨V74, eV74, h⟩ := cr_lt_s h
          refine jr_put X.c (ci := 8) (C := RX8) (T := TX8) (N := 22) (k := 15) rfl cr_in8 tyX8 tyX8_ok nmX8 (by decide) (cr_row_159 w) rfl (Nat.le_of_ble_eq_true rfl) (by decide) rfl rfl rfl fl_X8_154 dX8_readsNumber_74 eV74 ?_
          refine jr_iconst X.c (v := (1 : Int32)) dX8_readsNumber_77 (by decide) ?_
          cases h
          exact jr_zret X.c (r := (1 : Int32)) hr0 (by decide) dX8_readsNumber_78
  · replace h := cr_if_t q7 h
    refine jr_iconst X.c (v := (0 : Int32)) dX8_readsNumber_10 (by decide) ?_
    cases h
    exact jr_zret X.c (r := (0 : Int32)) hr0 (by decide) dX8_readsNumber_11
set_option maxRecDepth 100000 in
set_option maxHeartbeats 4000000 in
theorem m_X8_readsNumber (l : Launch) (w : cr_Wd) (V : cr_Hp) (x1 : Int32) (x2 : Int32)  (x : Int32 × cr_Hp) (h : f_X8_readsNumber x1 x2 V = some x) : Met l yX8_readsNumber (cr_wds yX8_readsNumber cX8_readsNumber 4 (some .boolean)) rm_X8_readsNumber (cr_Pc w V [.ref (w.1 159), .int x1, .int x2]) (cr_Qi w x.2 x.1) 0 0 (cr_A w) := by
  refine cr_met (own := RX8) (lv := [(0, .ref (w.1 159)), (1, .int x1), (2, .int x2)]) (by decide +kernel) rfl (Nat.le_of_ble_eq_true rfl) rfl (fun p e s m args below meth c X hr0 => ?_)
  exact t_X8_readsNumber X x1 x2 V  hr0 x h
abbrev rm_X8_isNext : Room := { frames := 1, cells := 0, slots := 0, locals := 21 }
theorem hd_X8_isNext : yX8_isNext.cls = RX8 ∧ yX8_isNext.cls ≠ "java/lang/invoke/MethodHandle" ∧ yX8_isNext.cls ≠ "java/lang/invoke/VarHandle" ∧ (parseMethodDescriptor yX8_isNext.desc).map (fun d => d.parameters.length) = some 1 := by decide +kernel
def f_X8_isNext_b17 (z0_17 : Int32) (V : cr_Hp) : Option (Int32 × cr_Hp) :=
  if z0_17 = 0 then (cr_lt (cr_pt V 159 15 ((V 159 15) + (0 : Int32))) (fun (V33 : cr_Hp) => cr_gd (cr_bo z0_17) (some (z0_17, V33)))) else (cr_lt (cr_pt V 159 15 ((V 159 15) + (1 : Int32))) (fun (V33 : cr_Hp) => cr_gd (cr_bo z0_17) (some (z0_17, V33))))
set_option maxRecDepth 100000 in
set_option maxHeartbeats 4000000 in
theorem t_X8_isNext_b17 {p : Program} {l : Launch} {e : Env} {s : State} {m : MethodId} {args : Array Value} {below : List Frame} {meth : Method} {c : Code} {w : cr_Wd} (X : cr_Cx w RX8 (Cond.code yX8_isNext cX8_isNext 3 (some .boolean)) cX8_isNext 3 p s m args meth c) (z0_17 : Int32) (V : cr_Hp)  (hr0 : meth.sig.returnType = (some .boolean)) (x : Int32 × cr_Hp) (h : f_X8_isNext_b17 z0_17 V = some x) : cr_J w 3 p l e rm_X8_isNext s m args below meth c 0 0 (MQ below (cr_Qi w x.2 x.1) args s 0 0 (cr_A w)) V 17 [(0, .ref (w.1 159))] [.int z0_17] := by
  unfold f_X8_isNext_b17 at h
  refine jr_istore_n X.c (lv2 := [(2, .int z0_17), (0, .ref (w.1 159))]) dX8_isNext_17 rfl (by decide) rfl ?_
  refine jr_aload_n X.c dX8_isNext_18 rfl 1 rfl ?_
  refine jr_dup X.c dX8_isNext_19 rfl ?_
  refine jr_get X.c (ci := 8) (C := RX8) (T := TX8) (N := 22) (k := 15) rfl cr_in8 (by decide) ((cr_row_159 w) _) rfl (by decide) fl_X8_154 dX8_isNext_20 ?_
  refine jr_iload_n X.c dX8_isNext_23 rfl 0 rfl ?_
  refine jr_if_eq X.c 31 dX8_isNext_24 (by decide) (fun q24 => ?_) (fun q24 => ?_)
  · replace h := cr_if_t q24 h
    refine jr_iconst X.c (v := (0 : Int32)) dX8_isNext_31 (by decide) ?_
    refine jr_iadd X.c dX8_isNext_32 ?_
    obtain ⟨V33, eV33, h⟩ := cr_lt_s h
    refine jr_put X.c (ci := 8) (C := RX8) (T := TX8) (N := 22) (k := 15) rfl cr_in8 tyX8 tyX8_ok nmX8 (by decide) (cr_row_159 w) rfl (Nat.le_of_ble_eq_true rfl) (by decide) rfl rfl rfl fl_X8_154 dX8_isNext_33 eV33 ?_
    refine jr_iload_n X.c dX8_isNext_36 rfl 0 rfl ?_
    obtain ⟨hk37, h⟩ := cr_gd_s h
    cases h
    exact jr_zret X.c hr0 (cr_nb hk37) dX8_isNext_37
  · replace h := cr_if_f q24 h
    refine jr_iconst X.c (v := (1 : Int32)) dX8_isNext_27 (by decide) ?_
    refine jr_goto X.c 32 dX8_isNext_28 (by decide) ?_
    refine jr_iadd X.c dX8_isNext_32 ?_
    obtain ⟨V33, eV33, h⟩ := cr_lt_s h
    refine jr_put X.c (ci := 8) (C := RX8) (T := TX8) (N := 22) (k := 15) rfl cr_in8 tyX8 tyX8_ok nmX8 (by decide) (cr_row_159 w) rfl (Nat.le_of_ble_eq_true rfl) (by decide) rfl rfl rfl fl_X8_154 dX8_isNext_33 eV33 ?_
    refine jr_iload_n X.c dX8_isNext_36 rfl 0 rfl ?_
    obtain ⟨hk37, h⟩ := cr_gd_s h
    cases h
    exact jr_zret X.c hr0 (cr_nb hk37) dX8_isNext_37
def f_X8_isNext (x1 : Int32) (V : cr_Hp) : Option (Int32 × cr_Hp) :=
  cr_bd (f_X8_character (V 159 15) V) (fun (r5 : Int32) => if r5 = x1 then (f_X8_isNext_b17 (1 : Int32) V) else (f_X8_isNext_b17 (0 : Int32) V))
set_option maxRecDepth 100000 in
set_option maxHeartbeats 4000000 in
theorem t_X8_isNext {p : Program} {l : Launch} {e : Env} {s : State} {m : MethodId} {args : Array Value} {below : List Frame} {meth : Method} {c : Code} {w : cr_Wd} (X : cr_Cx w RX8 (Cond.code yX8_isNext cX8_isNext 3 (some .boolean)) cX8_isNext 3 p s m args meth c) (x1 : Int32) (V : cr_Hp)  (hr0 : meth.sig.returnType = (some .boolean)) (x : Int32 × cr_Hp) (h : f_X8_isNext x1 V = some x) : cr_J w 3 p l e rm_X8_isNext s m args below meth c 0 0 (MQ below (cr_Qi w x.2 x.1) args s 0 0 (cr_A w)) V 0 [(0, .ref (w.1 159)), (1, .int x1)] [] := by
  unfold f_X8_isNext at h
  refine jr_aload_n X.c dX8_isNext_0 rfl 0 rfl ?_
  refine jr_aload_n X.c dX8_isNext_1 rfl 0 rfl ?_
  refine jr_get X.c (ci := 8) (C := RX8) (T := TX8) (N := 22) (k := 15) rfl cr_in8 (by decide) ((cr_row_159 w) _) rfl (by decide) fl_X8_154 dX8_isNext_2 ?_
  obtain ⟨r5, hr5, h⟩ := cr_bd_s h
  refine jc_Vi X.c (As := [.int (V 159 15)]) (V1 := V) (C := RX8) (T := TX8) (N := 22) (ci := 8) 1 (m_X8_character l w V (V 159 15)  r5 hr5) ⟨rfl, rfl⟩ ml_X8_157 im_X8_character sl_X8_character in_X8 cd_X8_character hd_X8_character ⟨Nat.le_of_ble_eq_true rfl, Nat.le_of_ble_eq_true rfl⟩ ⟨Nat.le_of_ble_eq_true rfl, Nat.le_of_ble_eq_true rfl⟩ rfl (Nat.le_of_ble_eq_true rfl) (by decide) ((cr_row_159 w) _) rfl rfl dX8_isNext_5 ?_
  refine jr_iload_n X.c dX8_isNext_8 rfl 1 rfl ?_
  refine jr_icmp_ne X.c 16 dX8_isNext_9 (by decide) (fun q9 => ?_) (fun q9 => ?_)
  · replace h := cr_if_f q9 h
    refine jr_iconst X.c (v := (0 : Int32)) dX8_isNext_16 (by decide) ?_
    refine jr_sub [0] rfl ?_
    exact t_X8_isNext_b17 X (0 : Int32) V  hr0 x  h
  · replace h := cr_if_t q9 h
    refine jr_iconst X.c (v := (1 : Int32)) dX8_isNext_12 (by decide) ?_
    refine jr_goto X.c 17 dX8_isNext_13 (by decide) ?_
    refine jr_sub [0] rfl ?_
    exact t_X8_isNext_b17 X (1 : Int32) V  hr0 x  h
set_option maxRecDepth 100000 in
set_option maxHeartbeats 4000000 in
theorem m_X8_isNext (l : Launch) (w : cr_Wd) (V : cr_Hp) (x1 : Int32)  (x : Int32 × cr_Hp) (h : f_X8_isNext x1 V = some x) : Met l yX8_isNext (cr_wds yX8_isNext cX8_isNext 3 (some .boolean)) rm_X8_isNext (cr_Pc w V [.ref (w.1 159), .int x1]) (cr_Qi w x.2 x.1) 0 0 (cr_A w) := by
  refine cr_met (own := RX8) (lv := [(0, .ref (w.1 159)), (1, .int x1)]) (by decide +kernel) rfl (Nat.le_of_ble_eq_true rfl) rfl (fun p e s m args below meth c X hr0 => ?_)
  exact t_X8_isNext X x1 V  hr0 x h
abbrev rm_X8_readsItem : Room := { frames := 3, cells := 0, slots := 0, locals := 68 }
theorem hd_X8_readsItem : yX8_readsItem.cls = RX8 ∧ yX8_readsItem.cls ≠ "java/lang/invoke/MethodHandle" ∧ yX8_readsItem.cls ≠ "java/lang/invoke/VarHandle" ∧ (parseMethodDescriptor yX8_readsItem.desc).map (fun d => d.parameters.length) = some 0 := by decide +kernel
def f_X8_readsItem_b170 (z0_170 : Int32) (V_170 : cr_Hp) : Option (Int32 × cr_Hp) :=
  cr_lt (cr_pt V_170 159 20 (V_170 159 17)) (fun (V176 : cr_Hp) => if z0_170 = 0 then (cr_lt (cr_pt V176 159 21 (V176 159 17)) (fun (V212 : cr_Hp) => some ((0 : Int32), V212))) else (cr_b2 (f_X8_isNext (112 : Int32) V176) (fun (r186 : Int32) (V186 : cr_Hp) => if r186 = 0 then (cr_lt (cr_pt V186 159 21 (V186 159 17)) (fun (V212 : cr_Hp) => some ((0 : Int32), V212))) else (cr_b2 (f_X8_readsDigit (0 : Int32) (2 : Int32) V186) (fun (r195 : Int32) (V195 : cr_Hp) => if r195 = 0 then (cr_lt (cr_pt V195 159 21 (V195 159 17)) (fun (V212 : cr_Hp) => some ((0 : Int32), V212))) else (cr_lt (cr_pt V195 159 21 (V195 159 17)) (fun (V212 : cr_Hp) => some ((1 : Int32), V212))))))))
set_option maxRecDepth 100000 in
set_option maxHeartbeats 4000000 in
theorem t_X8_readsItem_b170 {p : Program} {l : Launch} {e : Env} {s : State} {m : MethodId} {args : Array Value} {below : List Frame} {meth : Method} {c : Code} {w : cr_Wd} (X : cr_Cx w RX8 (Cond.code yX8_readsItem cX8_readsItem 2 (some .boolean)) cX8_readsItem 2 p s m args meth c) (z0_170 : Int32) (V_170 : cr_Hp)  (hr0 : meth.sig.returnType = (some .boolean)) (x : Int32 × cr_Hp) (h : f_X8_readsItem_b170 z0_170 V_170 = some x) : cr_J w 2 p l e rm_X8_readsItem s m args below meth c 0 0 (MQ below (cr_Qi w x.2 x.1) args s 0 0 (cr_A w)) V_170 170 [(0, .ref (w.1 159))] [.int z0_170] := by
  unfold f_X8_readsItem_b170 at h
  refine jr_istore_n X.c (lv2 := [(1, .int z0_170), (0, .ref (w.1 159))]) dX8_readsItem_170 rfl (by decide) rfl ?_
  refine jr_aload_n X.c dX8_readsItem_171 rfl 1 rfl ?_
  refine jr_aload_n X.c dX8_readsItem_172 rfl 1 rfl ?_
  refine jr_get X.c (ci := 8) (C := RX8) (T := TX8) (N := 22) (k := 17) rfl cr_in8 (by decide) ((cr_row_159 w) _) rfl (by decide) fl_X8_160 dX8_readsItem_173 ?_
  obtain ⟨V176, eV176, h⟩ := cr_lt_s h
  refine jr_put X.c (ci := 8) (C := RX8) (T := TX8) (N := 22) (k := 20) rfl cr_in8 tyX8 tyX8_ok nmX8 (by decide) (cr_row_159 w) rfl (Nat.le_of_ble_eq_true rfl) (by decide) rfl rfl rfl fl_X8_181 dX8_readsItem_176 eV176 ?_
  refine jr_iload_n X.c dX8_readsItem_179 rfl 0 rfl ?_
  refine jr_if_eq X.c 205 dX8_readsItem_180 (by decide) (fun q180 => ?_) (fun q180 => ?_)
  · replace h := cr_if_t q180 h
    refine jr_iconst X.c (v := (0 : Int32)) dX8_readsItem_205 (by decide) ?_
    refine jr_istore_n X.c (lv2 := [(1, .int (0 : Int32)), (0, .ref (w.1 159))]) dX8_readsItem_206 rfl (by decide) rfl ?_
    refine jr_aload_n X.c dX8_readsItem_207 rfl 1 rfl ?_
    refine jr_aload_n X.c dX8_readsItem_208 rfl 1 rfl ?_
    refine jr_get X.c (ci := 8) (C := RX8) (T := TX8) (N := 22) (k := 17) rfl cr_in8 (by decide) ((cr_row_159 w) _) rfl (by decide) fl_X8_160 dX8_readsItem_209 ?_
    obtain ⟨V212, eV212, h⟩ := cr_lt_s h
    refine jr_put X.c (ci := 8) (C := RX8) (T := TX8) (N := 22) (k := 21) rfl cr_in8 tyX8 tyX8_ok nmX8 (by decide) (cr_row_159 w) rfl (Nat.le_of_ble_eq_true rfl) (by decide) rfl rfl rfl fl_X8_184 dX8_readsItem_212 eV212 ?_
    refine jr_iload_n X.c dX8_readsItem_215 rfl 0 rfl ?_
    cases h
    exact jr_zret X.c (r := (0 : Int32)) hr0 (by decide) dX8_readsItem_216
  · replace h := cr_if_f q180 h
    refine jr_aload_n X.c dX8_readsItem_183 rfl 1 rfl ?_
    refine jr_bipush X.c (v := (112 : Int32)) dX8_readsItem_184 (by decide) ?_
    obtain ⟨r186, V186, hr186, h⟩ := cr_b2_s h
    refine jc_Vi X.c (As := [.int (112 : Int32)]) (V1 := V186) (C := RX8) (T := TX8) (N := 22) (ci := 8) 1 (m_X8_isNext l w V176 (112 : Int32)  (r186, V186) hr186) ⟨rfl, rfl⟩ ml_X8_175 im_X8_isNext sl_X8_isNext in_X8 cd_X8_isNext hd_X8_isNext ⟨Nat.le_of_ble_eq_true rfl, Nat.le_of_ble_eq_true rfl⟩ ⟨Nat.le_of_ble_eq_true rfl, Nat.le_of_ble_eq_true rfl⟩ rfl (Nat.le_of_ble_eq_true rfl) (by decide) ((cr_row_159 w) _) rfl rfl dX8_readsItem_186 ?_
    refine jr_if_eq X.c 205 dX8_readsItem_189 (by decide) (fun q189 => ?_) (fun q189 => ?_)
    · replace h := cr_if_t q189 h
      refine jr_iconst X.c (v := (0 : Int32)) dX8_readsItem_205 (by decide) ?_
      refine jr_istore_n X.c (lv2 := [(1, .int (0 : Int32)), (0, .ref (w.1 159))]) dX8_readsItem_206 rfl (by decide) rfl ?_
      refine jr_aload_n X.c dX8_readsItem_207 rfl 1 rfl ?_
      refine jr_aload_n X.c dX8_readsItem_208 rfl 1 rfl ?_
      refine jr_get X.c (ci := 8) (C := RX8) (T := TX8) (N := 22) (k := 17) rfl cr_in8 (by decide) ((cr_row_159 w) _) rfl (by decide) fl_X8_160 dX8_readsItem_209 ?_
      obtain ⟨V212, eV212, h⟩ := cr_lt_s h
      refine jr_put X.c (ci := 8) (C := RX8) (T := TX8) (N := 22) (k := 21) rfl cr_in8 tyX8 tyX8_ok nmX8 (by decide) (cr_row_159 w) rfl (Nat.le_of_ble_eq_true rfl) (by decide) rfl rfl rfl fl_X8_184 dX8_readsItem_212 eV212 ?_
      refine jr_iload_n X.c dX8_readsItem_215 rfl 0 rfl ?_
      cases h
      exact jr_zret X.c (r := (0 : Int32)) hr0 (by decide) dX8_readsItem_216
    · replace h := cr_if_f q189 h
      refine jr_aload_n X.c dX8_readsItem_192 rfl 1 rfl ?_
      refine jr_iconst X.c (v := (0 : Int32)) dX8_readsItem_193 (by decide) ?_
      refine jr_iconst X.c (v := (2 : Int32)) dX8_readsItem_194 (by decide) ?_
      obtain ⟨r195, V195, hr195, h⟩ := cr_b2_s h
      refine jc_Vi X.c (As := [.int (0 : Int32), .int (2 : Int32)]) (V1 := V195) (C := RX8) (T := TX8) (N := 22) (ci := 8) 2 (m_X8_readsDigit l w V186 (0 : Int32) (2 : Int32)  (r195, V195) hr195) ⟨rfl, rfl⟩ ml_X8_163 im_X8_readsDigit sl_X8_readsDigit in_X8 cd_X8_readsDigit hd_X8_readsDigit ⟨Nat.le_of_ble_eq_true rfl, Nat.le_of_ble_eq_true rfl⟩ ⟨Nat.le_of_ble_eq_true rfl, Nat.le_of_ble_eq_true rfl⟩ rfl (Nat.le_of_ble_eq_true rfl) (by decide) ((cr_row_159 w) _) rfl rfl dX8_readsItem_195 ?_
      refine jr_if_eq X.c 205 dX8_readsItem_198 (by decide) (fun q198 => ?_) (fun q198 => ?_)
      · replace h := cr_if_t q198 h
        refine jr_iconst X.c (v := (0 : Int32)) dX8_readsItem_205 (by decide) ?_
        refine jr_istore_n X.c (lv2 := [(1, .int (0 : Int32)), (0, .ref (w.1 159))]) dX8_readsItem_206 rfl (by decide) rfl ?_
        refine jr_aload_n X.c dX8_readsItem_207 rfl 1 rfl ?_
        refine jr_aload_n X.c dX8_readsItem_208 rfl 1 rfl ?_
        refine jr_get X.c (ci := 8) (C := RX8) (T := TX8) (N := 22) (k := 17) rfl cr_in8 (by decide) ((cr_row_159 w) _) rfl (by decide) fl_X8_160 dX8_readsItem_209 ?_
        obtain ⟨V212, eV212, h⟩ := cr_lt_s h
        refine jr_put X.c (ci := 8) (C := RX8) (T := TX8) (N := 22) (k := 21) rfl cr_in8 tyX8 tyX8_ok nmX8 (by decide) (cr_row_159 w) rfl (Nat.le_of_ble_eq_true rfl) (by decide) rfl rfl rfl fl_X8_184 dX8_readsItem_212 eV212 ?_
        refine jr_iload_n X.c dX8_readsItem_215 rfl 0 rfl ?_
        cases h
        exact jr_zret X.c (r := (0 : Int32)) hr0 (by decide) dX8_readsItem_216
      · replace h := cr_if_f q198 h
        refine jr_iconst X.c (v := (1 : Int32)) dX8_readsItem_201 (by decide) ?_
        refine jr_goto X.c 206 dX8_readsItem_202 (by decide) ?_
        refine jr_istore_n X.c (lv2 := [(1, .int (1 : Int32)), (0, .ref (w.1 159))]) dX8_readsItem_206 rfl (by decide) rfl ?_
        refine jr_aload_n X.c dX8_readsItem_207 rfl 1 rfl ?_
        refine jr_aload_n X.c dX8_readsItem_208 rfl 1 rfl ?_
        refine jr_get X.c (ci := 8) (C := RX8) (T := TX8) (N := 22) (k := 17) rfl cr_in8 (by decide) ((cr_row_159 w) _) rfl (by decide) fl_X8_160 dX8_readsItem_209 ?_
        obtain ⟨V212, eV212, h⟩ := cr_lt_s h
        refine jr_put X.c (ci := 8) (C := RX8) (T := TX8) (N := 22) (k := 21) rfl cr_in8 tyX8 tyX8_ok nmX8 (by decide) (cr_row_159 w) rfl (Nat.le_of_ble_eq_true rfl) (by decide) rfl rfl rfl fl_X8_184 dX8_readsItem_212 eV212 ?_
        refine jr_iload_n X.c dX8_readsItem_215 rfl 0 rfl ?_
        cases h
        exact jr_zret X.c (r := (1 : Int32)) hr0 (by decide) dX8_readsItem_216
def f_X8_readsItem_b169  (V_169 : cr_Hp) : Option (Int32 × cr_Hp) :=
  f_X8_readsItem_b170 (0 : Int32) V_169
set_option maxRecDepth 100000 in
set_option maxHeartbeats 4000000 in
theorem t_X8_readsItem_b169 {p : Program} {l : Launch} {e : Env} {s : State} {m : MethodId} {args : Array Value} {below : List Frame} {meth : Method} {c : Code} {w : cr_Wd} (X : cr_Cx w RX8 (Cond.code yX8_readsItem cX8_readsItem 2 (some .boolean)) cX8_readsItem 2 p s m args meth c)  (V_169 : cr_Hp)  (hr0 : meth.sig.returnType = (some .boolean)) (x : Int32 × cr_Hp) (h : f_X8_readsItem_b169  V_169 = some x) : cr_J w 2 p l e rm_X8_readsItem s m args below meth c 0 0 (MQ below (cr_Qi w x.2 x.1) args s 0 0 (cr_A w)) V_169 169 [(0, .ref (w.1 159))] [] := by
  unfold f_X8_readsItem_b169 at h
  refine jr_iconst X.c (v := (0 : Int32)) dX8_readsItem_169 (by decide) ?_
  refine jr_sub [0] rfl ?_
  exact t_X8_readsItem_b170 X (0 : Int32) V_169  hr0 x  h
def f_X8_readsItem_b86 (z0_86 : Int32) (V_86 : cr_Hp) : Option (Int32 × cr_Hp) :=
  cr_lt (cr_pt V_86 159 19 (V_86 159 17)) (fun (V92 : cr_Hp) => if (V92 159 16) = (114 : Int32) then (if z0_86 = 0 then (cr_lt (cr_pt V92 159 20 (V92 159 17)) (fun (V138 : cr_Hp) => some ((0 : Int32), V138))) else (cr_b2 (f_X8_isNext (58 : Int32) V92) (fun (r111 : Int32) (V111 : cr_Hp) => if r111 = 0 then (cr_lt (cr_pt V111 159 20 (V111 159 17)) (fun (V138 : cr_Hp) => some ((0 : Int32), V138))) else (cr_b2 (f_X8_readsNumber (1 : Int32) (15 : Int32) V111) (fun (r121 : Int32) (V121 : cr_Hp) => if r121 = 0 then (cr_lt (cr_pt V121 159 20 (V121 159 17)) (fun (V138 : cr_Hp) => some ((0 : Int32), V138))) else (cr_lt (cr_pt V121 159 20 (V121 159 17)) (fun (V138 : cr_Hp) => some ((1 : Int32), V138)))))))) else (if z0_86 = 0 then (f_X8_readsItem_b169  V92) else (cr_b2 (f_X8_isNext (115 : Int32) V92) (fun (r150 : Int32) (V150 : cr_Hp) => if r150 = 0 then (f_X8_readsItem_b169  V150) else (cr_b2 (f_X8_readsDigit (1 : Int32) (3 : Int32) V150) (fun (r159 : Int32) (V159 : cr_Hp) => if r159 = 0 then (f_X8_readsItem_b169  V159) else (f_X8_readsItem_b170 (1 : Int32) V159)))))))
set_option maxRecDepth 100000 in
set_option maxHeartbeats 4000000 in
theorem t_X8_readsItem_b86 {p : Program} {l : Launch} {e : Env} {s : State} {m : MethodId} {args : Array Value} {below : List Frame} {meth : Method} {c : Code} {w : cr_Wd} (X : cr_Cx w RX8 (Cond.code yX8_readsItem cX8_readsItem 2 (some .boolean)) cX8_readsItem 2 p s m args meth c) (z0_86 : Int32) (V_86 : cr_Hp)  (hr0 : meth.sig.returnType = (some .boolean)) (x : Int32 × cr_Hp) (h : f_X8_readsItem_b86 z0_86 V_86 = some x) : cr_J w 2 p l e rm_X8_readsItem s m args below meth c 0 0 (MQ below (cr_Qi w x.2 x.1) args s 0 0 (cr_A w)) V_86 86 [(0, .ref (w.1 159))] [.int z0_86] := by
  unfold f_X8_readsItem_b86 at h
  refine jr_istore_n X.c (lv2 := [(1, .int z0_86), (0, .ref (w.1 159))]) dX8_readsItem_86 rfl (by decide) rfl ?_
  refine jr_aload_n X.c dX8_readsItem_87 rfl 1 rfl ?_
  refine jr_aload_n X.c dX8_readsItem_88 rfl 1 rfl ?_
  refine jr_get X.c (ci := 8) (C := RX8) (T := TX8) (N := 22) (k := 17) rfl cr_in8 (by decide) ((cr_row_159 w) _) rfl (by decide) fl_X8_160 dX8_readsItem_89 ?_
  obtain ⟨V92, eV92, h⟩ := cr_lt_s h
  refine jr_put X.c (ci := 8) (C := RX8) (T := TX8) (N := 22) (k := 19) rfl cr_in8 tyX8 tyX8_ok nmX8 (by decide) (cr_row_159 w) rfl (Nat.le_of_ble_eq_true rfl) (by decide) rfl rfl rfl fl_X8_178 dX8_readsItem_92 eV92 ?_
  refine jr_aload_n X.c dX8_readsItem_95 rfl 1 rfl ?_
  refine jr_get X.c (ci := 8) (C := RX8) (T := TX8) (N := 22) (k := 16) rfl cr_in8 (by decide) ((cr_row_159 w) _) rfl (by decide) fl_X8_166 dX8_readsItem_96 ?_
  refine jr_bipush X.c (v := (114 : Int32)) dX8_readsItem_99 (by decide) ?_
  refine jr_icmp_ne X.c 143 dX8_readsItem_101 (by decide) (fun q101 => ?_) (fun q101 => ?_)
  · replace h := cr_if_f q101 h
    refine jr_iload_n X.c dX8_readsItem_143 rfl 0 rfl ?_
    refine jr_if_eq X.c 169 dX8_readsItem_144 (by decide) (fun q144 => ?_) (fun q144 => ?_)
    · replace h := cr_if_t q144 h
      refine jr_sub [1] rfl ?_
      exact t_X8_readsItem_b169 X  V92  hr0 x  h
    · replace h := cr_if_f q144 h
      refine jr_aload_n X.c dX8_readsItem_147 rfl 1 rfl ?_
      refine jr_bipush X.c (v := (115 : Int32)) dX8_readsItem_148 (by decide) ?_
      obtain ⟨r150, V150, hr150, h⟩ := cr_b2_s h
      refine jc_Vi X.c (As := [.int (115 : Int32)]) (V1 := V150) (C := RX8) (T := TX8) (N := 22) (ci := 8) 1 (m_X8_isNext l w V92 (115 : Int32)  (r150, V150) hr150) ⟨rfl, rfl⟩ ml_X8_175 im_X8_isNext sl_X8_isNext in_X8 cd_X8_isNext hd_X8_isNext ⟨Nat.le_of_ble_eq_true rfl, Nat.le_of_ble_eq_true rfl⟩ ⟨Nat.le_of_ble_eq_true rfl, Nat.le_of_ble_eq_true rfl⟩ rfl (Nat.le_of_ble_eq_true rfl) (by decide) ((cr_row_159 w) _) rfl rfl dX8_readsItem_150 ?_
      refine jr_if_eq X.c 169 dX8_readsItem_153 (by decide) (fun q153 => ?_) (fun q153 => ?_)
      · replace h := cr_if_t q153 h
        refine jr_sub [1] rfl ?_
        exact t_X8_readsItem_b169 X  V150  hr0 x  h
      · replace h := cr_if_f q153 h
        refine jr_aload_n X.c dX8_readsItem_156 rfl 1 rfl ?_
        refine jr_iconst X.c (v := (1 : Int32)) dX8_readsItem_157 (by decide) ?_
        refine jr_iconst X.c (v := (3 : Int32)) dX8_readsItem_158 (by decide) ?_
        obtain ⟨r159, V159, hr159, h⟩ := cr_b2_s h
        refine jc_Vi X.c (As := [.int (1 : Int32), .int (3 : Int32)]) (V1 := V159) (C := RX8) (T := TX8) (N := 22) (ci := 8) 2 (m_X8_readsDigit l w V150 (1 : Int32) (3 : Int32)  (r159, V159) hr159) ⟨rfl, rfl⟩ ml_X8_163 im_X8_readsDigit sl_X8_readsDigit in_X8 cd_X8_readsDigit hd_X8_readsDigit ⟨Nat.le_of_ble_eq_true rfl, Nat.le_of_ble_eq_true rfl⟩ ⟨Nat.le_of_ble_eq_true rfl, Nat.le_of_ble_eq_true rfl⟩ rfl (Nat.le_of_ble_eq_true rfl) (by decide) ((cr_row_159 w) _) rfl rfl dX8_readsItem_159 ?_
        refine jr_if_eq X.c 169 dX8_readsItem_162 (by decide) (fun q162 => ?_) (fun q162 => ?_)
        · replace h := cr_if_t q162 h
          refine jr_sub [1] rfl ?_
          exact t_X8_readsItem_b169 X  V159  hr0 x  h
        · replace h := cr_if_f q162 h
          refine jr_iconst X.c (v := (1 : Int32)) dX8_readsItem_165 (by decide) ?_
          refine jr_goto X.c 170 dX8_readsItem_166 (by decide) ?_
          refine jr_sub [1] rfl ?_
          exact t_X8_readsItem_b170 X (1 : Int32) V159  hr0 x  h
  · replace h := cr_if_t q101 h
    refine jr_iload_n X.c dX8_readsItem_104 rfl 0 rfl ?_
    refine jr_if_eq X.c 131 dX8_readsItem_105 (by decide) (fun q105 => ?_) (fun q105 => ?_)
    · replace h := cr_if_t q105 h
      refine jr_iconst X.c (v := (0 : Int32)) dX8_readsItem_131 (by decide) ?_
      refine jr_istore_n X.c (lv2 := [(1, .int (0 : Int32)), (0, .ref (w.1 159))]) dX8_readsItem_132 rfl (by decide) rfl ?_
      refine jr_aload_n X.c dX8_readsItem_133 rfl 1 rfl ?_
      refine jr_aload_n X.c dX8_readsItem_134 rfl 1 rfl ?_
      refine jr_get X.c (ci := 8) (C := RX8) (T := TX8) (N := 22) (k := 17) rfl cr_in8 (by decide) ((cr_row_159 w) _) rfl (by decide) fl_X8_160 dX8_readsItem_135 ?_
      obtain ⟨V138, eV138, h⟩ := cr_lt_s h
      refine jr_put X.c (ci := 8) (C := RX8) (T := TX8) (N := 22) (k := 20) rfl cr_in8 tyX8 tyX8_ok nmX8 (by decide) (cr_row_159 w) rfl (Nat.le_of_ble_eq_true rfl) (by decide) rfl rfl rfl fl_X8_181 dX8_readsItem_138 eV138 ?_
      refine jr_iload_n X.c dX8_readsItem_141 rfl 0 rfl ?_
      cases h
      exact jr_zret X.c (r := (0 : Int32)) hr0 (by decide) dX8_readsItem_142
    · replace h := cr_if_f q105 h
      refine jr_aload_n X.c dX8_readsItem_108 rfl 1 rfl ?_
      refine jr_bipush X.c (v := (58 : Int32)) dX8_readsItem_109 (by decide) ?_
      obtain ⟨r111, V111, hr111, h⟩ := cr_b2_s h
      refine jc_Vi X.c (As := [.int (58 : Int32)]) (V1 := V111) (C := RX8) (T := TX8) (N := 22) (ci := 8) 1 (m_X8_isNext l w V92 (58 : Int32)  (r111, V111) hr111) ⟨rfl, rfl⟩ ml_X8_175 im_X8_isNext sl_X8_isNext in_X8 cd_X8_isNext hd_X8_isNext ⟨Nat.le_of_ble_eq_true rfl, Nat.le_of_ble_eq_true rfl⟩ ⟨Nat.le_of_ble_eq_true rfl, Nat.le_of_ble_eq_true rfl⟩ rfl (Nat.le_of_ble_eq_true rfl) (by decide) ((cr_row_159 w) _) rfl rfl dX8_readsItem_111 ?_
      refine jr_if_eq X.c 131 dX8_readsItem_114 (by decide) (fun q114 => ?_) (fun q114 => ?_)
      · replace h := cr_if_t q114 h
        refine jr_iconst X.c (v := (0 : Int32)) dX8_readsItem_131 (by decide) ?_
        refine jr_istore_n X.c (lv2 := [(1, .int (0 : Int32)), (0, .ref (w.1 159))]) dX8_readsItem_132 rfl (by decide) rfl ?_
        refine jr_aload_n X.c dX8_readsItem_133 rfl 1 rfl ?_
        refine jr_aload_n X.c dX8_readsItem_134 rfl 1 rfl ?_
        refine jr_get X.c (ci := 8) (C := RX8) (T := TX8) (N := 22) (k := 17) rfl cr_in8 (by decide) ((cr_row_159 w) _) rfl (by decide) fl_X8_160 dX8_readsItem_135 ?_
        obtain ⟨V138, eV138, h⟩ := cr_lt_s h
        refine jr_put X.c (ci := 8) (C := RX8) (T := TX8) (N := 22) (k := 20) rfl cr_in8 tyX8 tyX8_ok nmX8 (by decide) (cr_row_159 w) rfl (Nat.le_of_ble_eq_true rfl) (by decide) rfl rfl rfl fl_X8_181 dX8_readsItem_138 eV138 ?_
        refine jr_iload_n X.c dX8_readsItem_141 rfl 0 rfl ?_
        cases h
        exact jr_zret X.c (r := (0 : Int32)) hr0 (by decide) dX8_readsItem_142
      · replace h := cr_if_f q114 h
        refine jr_aload_n X.c dX8_readsItem_117 rfl 1 rfl ?_
        refine jr_iconst X.c (v := (1 : Int32)) dX8_readsItem_118 (by decide) ?_
        refine jr_bipush X.c (v := (15 : Int32)) dX8_readsItem_119 (by decide) ?_
        obtain ⟨r121, V121, hr121, h⟩ := cr_b2_s h
        refine jc_Vi X.c (As := [.int (1 : Int32), .int (15 : Int32)]) (V1 := V121) (C := RX8) (T := TX8) (N := 22) (ci := 8) 2 (m_X8_readsNumber l w V111 (1 : Int32) (15 : Int32)  (r121, V121) hr121) ⟨rfl, rfl⟩ ml_X8_169 im_X8_readsNumber sl_X8_readsNumber in_X8 cd_X8_readsNumber hd_X8_readsNumber ⟨Nat.le_of_ble_eq_true rfl, Nat.le_of_ble_eq_true rfl⟩ ⟨Nat.le_of_ble_eq_true rfl, Nat.le_of_ble_eq_true rfl⟩ rfl (Nat.le_of_ble_eq_true rfl) (by decide) ((cr_row_159 w) _) rfl rfl dX8_readsItem_121 ?_
        refine jr_if_eq X.c 131 dX8_readsItem_124 (by decide) (fun q124 => ?_) (fun q124 => ?_)
        · replace h := cr_if_t q124 h
          refine jr_iconst X.c (v := (0 : Int32)) dX8_readsItem_131 (by decide) ?_
          refine jr_istore_n X.c (lv2 := [(1, .int (0 : Int32)), (0, .ref (w.1 159))]) dX8_readsItem_132 rfl (by decide) rfl ?_
          refine jr_aload_n X.c dX8_readsItem_133 rfl 1 rfl ?_
          refine jr_aload_n X.c dX8_readsItem_134 rfl 1 rfl ?_
          refine jr_get X.c (ci := 8) (C := RX8) (T := TX8) (N := 22) (k := 17) rfl cr_in8 (by decide) ((cr_row_159 w) _) rfl (by decide) fl_X8_160 dX8_readsItem_135 ?_
          obtain ⟨V138, eV138, h⟩ := cr_lt_s h
          refine jr_put X.c (ci := 8) (C := RX8) (T := TX8) (N := 22) (k := 20) rfl cr_in8 tyX8 tyX8_ok nmX8 (by decide) (cr_row_159 w) rfl (Nat.le_of_ble_eq_true rfl) (by decide) rfl rfl rfl fl_X8_181 dX8_readsItem_138 eV138 ?_
          refine jr_iload_n X.c dX8_readsItem_141 rfl 0 rfl ?_
          cases h
          exact jr_zret X.c (r := (0 : Int32)) hr0 (by decide) dX8_readsItem_142
        · replace h := cr_if_f q124 h
          refine jr_iconst X.c (v := (1 : Int32)) dX8_readsItem_127 (by decide) ?_
          refine jr_goto X.c 132 dX8_readsItem_128 (by decide) ?_
          refine jr_istore_n X.c (lv2 := [(1, .int (1 : Int32)), (0, .ref (w.1 159))]) dX8_readsItem_132 rfl (by decide) rfl ?_
          refine jr_aload_n X.c dX8_readsItem_133 rfl 1 rfl ?_
          refine jr_aload_n X.c dX8_readsItem_134 rfl 1 rfl ?_
          refine jr_get X.c (ci := 8) (C := RX8) (T := TX8) (N := 22) (k := 17) rfl cr_in8 (by decide) ((cr_row_159 w) _) rfl (by decide) fl_X8_160 dX8_readsItem_135 ?_
          obtain ⟨V138, eV138, h⟩ := cr_lt_s h
          refine jr_put X.c (ci := 8) (C := RX8) (T := TX8) (N := 22) (k := 20) rfl cr_in8 tyX8 tyX8_ok nmX8 (by decide) (cr_row_159 w) rfl (Nat.le_of_ble_eq_true rfl) (by decide) rfl rfl rfl fl_X8_181 dX8_readsItem_138 eV138 ?_
          refine jr_iload_n X.c dX8_readsItem_141 rfl 0 rfl ?_
          cases h
          exact jr_zret X.c (r := (1 : Int32)) hr0 (by decide) dX8_readsItem_142
def f_X8_readsItem_b85  (V_85 : cr_Hp) : Option (Int32 × cr_Hp) :=
  f_X8_readsItem_b86 (0 : Int32) V_85
set_option maxRecDepth 100000 in
set_option maxHeartbeats 4000000 in
theorem t_X8_readsItem_b85 {p : Program} {l : Launch} {e : Env} {s : State} {m : MethodId} {args : Array Value} {below : List Frame} {meth : Method} {c : Code} {w : cr_Wd} (X : cr_Cx w RX8 (Cond.code yX8_readsItem cX8_readsItem 2 (some .boolean)) cX8_readsItem 2 p s m args meth c)  (V_85 : cr_Hp)  (hr0 : meth.sig.returnType = (some .boolean)) (x : Int32 × cr_Hp) (h : f_X8_readsItem_b85  V_85 = some x) : cr_J w 2 p l e rm_X8_readsItem s m args below meth c 0 0 (MQ below (cr_Qi w x.2 x.1) args s 0 0 (cr_A w)) V_85 85 [(0, .ref (w.1 159))] [] := by
  unfold f_X8_readsItem_b85 at h
  refine jr_iconst X.c (v := (0 : Int32)) dX8_readsItem_85 (by decide) ?_
  refine jr_sub [0] rfl ?_
  exact t_X8_readsItem_b86 X (0 : Int32) V_85  hr0 x  h
def f_X8_readsItem_b32  (V9 : cr_Hp) : Option (Int32 × cr_Hp) :=
  cr_lt (cr_pt V9 159 15 ((V9 159 15) + (1 : Int32))) (fun (V39 : cr_Hp) => cr_b2 (f_X8_readsNumber (0 : Int32) (30 : Int32) V39) (fun (r46 : Int32) (V46 : cr_Hp) => cr_lt (cr_pt V46 159 18 (V46 159 17)) (fun (V55 : cr_Hp) => if r46 = 0 then (f_X8_readsItem_b85  V55) else (cr_b2 (f_X8_isNext (44 : Int32) V55) (fun (r65 : Int32) (V65 : cr_Hp) => if r65 = 0 then (f_X8_readsItem_b85  V65) else (cr_b2 (f_X8_readsNumber (0 : Int32) (30 : Int32) V65) (fun (r75 : Int32) (V75 : cr_Hp) => if r75 = 0 then (f_X8_readsItem_b85  V75) else (f_X8_readsItem_b86 (1 : Int32) V75))))))))
set_option maxRecDepth 100000 in
set_option maxHeartbeats 4000000 in
theorem t_X8_readsItem_b32 {p : Program} {l : Launch} {e : Env} {s : State} {m : MethodId} {args : Array Value} {below : List Frame} {meth : Method} {c : Code} {w : cr_Wd} (X : cr_Cx w RX8 (Cond.code yX8_readsItem cX8_readsItem 2 (some .boolean)) cX8_readsItem 2 p s m args meth c)  (V9 : cr_Hp)  (hr0 : meth.sig.returnType = (some .boolean)) (x : Int32 × cr_Hp) (h : f_X8_readsItem_b32  V9 = some x) : cr_J w 2 p l e rm_X8_readsItem s m args below meth c 0 0 (MQ below (cr_Qi w x.2 x.1) args s 0 0 (cr_A w)) V9 32 [(0, .ref (w.1 159))] [] := by
  unfold f_X8_readsItem_b32 at h
  refine jr_aload_n X.c dX8_readsItem_32 rfl 0 rfl ?_
  refine jr_dup X.c dX8_readsItem_33 rfl ?_
  refine jr_get X.c (ci := 8) (C := RX8) (T := TX8) (N := 22) (k := 15) rfl cr_in8 (by decide) ((cr_row_159 w) _) rfl (by decide) fl_X8_154 dX8_readsItem_34 ?_
  refine jr_iconst X.c (v := (1 : Int32)) dX8_readsItem_37 (by decide) ?_
  refine jr_iadd X.c dX8_readsItem_38 ?_
  obtain ⟨V39, eV39, h⟩ := cr_lt_s h
  refine jr_put X.c (ci := 8) (C := RX8) (T := TX8) (N := 22) (k := 15) rfl cr_in8 tyX8 tyX8_ok nmX8 (by decide) (cr_row_159 w) rfl (Nat.le_of_ble_eq_true rfl) (by decide) rfl rfl rfl fl_X8_154 dX8_readsItem_39 eV39 ?_
  refine jr_aload_n X.c dX8_readsItem_42 rfl 0 rfl ?_
  refine jr_iconst X.c (v := (0 : Int32)) dX8_readsItem_43 (by decide) ?_
  refine jr_bipush X.c (v := (30 : Int32)) dX8_readsItem_44 (by decide) ?_
  obtain ⟨r46, V46, hr46, h⟩ := cr_b2_s h
  refine jc_Vi X.c (As := [.int (0 : Int32), .int (30 : Int32)]) (V1 := V46) (C := RX8) (T := TX8) (N := 22) (ci := 8) 2 (m_X8_readsNumber l w V39 (0 : Int32) (30 : Int32)  (r46, V46) hr46) ⟨rfl, rfl⟩ ml_X8_169 im_X8_readsNumber sl_X8_readsNumber in_X8 cd_X8_readsNumber hd_X8_readsNumber ⟨Nat.le_of_ble_eq_true rfl, Nat.le_of_ble_eq_true rfl⟩ ⟨Nat.le_of_ble_eq_true rfl, Nat.le_of_ble_eq_true rfl⟩ rfl (Nat.le_of_ble_eq_true rfl) (by decide) ((cr_row_159 w) _) rfl rfl dX8_readsItem_46 ?_
  refine jr_istore_n X.c (lv2 := [(1, .int r46), (0, .ref (w.1 159))]) dX8_readsItem_49 rfl (by decide) rfl ?_
  refine jr_aload_n X.c dX8_readsItem_50 rfl 1 rfl ?_
  refine jr_aload_n X.c dX8_readsItem_51 rfl 1 rfl ?_
  refine jr_get X.c (ci := 8) (C := RX8) (T := TX8) (N := 22) (k := 17) rfl cr_in8 (by decide) ((cr_row_159 w) _) rfl (by decide) fl_X8_160 dX8_readsItem_52 ?_
  obtain ⟨V55, eV55, h⟩ := cr_lt_s h
  refine jr_put X.c (ci := 8) (C := RX8) (T := TX8) (N := 22) (k := 18) rfl cr_in8 tyX8 tyX8_ok nmX8 (by decide) (cr_row_159 w) rfl (Nat.le_of_ble_eq_true rfl) (by decide) rfl rfl rfl fl_X8_172 dX8_readsItem_55 eV55 ?_
  refine jr_iload_n X.c dX8_readsItem_58 rfl 0 rfl ?_
  refine jr_if_eq X.c 85 dX8_readsItem_59 (by decide) (fun q59 => ?_) (fun q59 => ?_)
  · replace h := cr_if_t q59 h
    refine jr_sub [1] rfl ?_
    exact t_X8_readsItem_b85 X  V55  hr0 x  h
  · replace h := cr_if_f q59 h
    refine jr_aload_n X.c dX8_readsItem_62 rfl 1 rfl ?_
    refine jr_bipush X.c (v := (44 : Int32)) dX8_readsItem_63 (by decide) ?_
    obtain ⟨r65, V65, hr65, h⟩ := cr_b2_s h
    refine jc_Vi X.c (As := [.int (44 : Int32)]) (V1 := V65) (C := RX8) (T := TX8) (N := 22) (ci := 8) 1 (m_X8_isNext l w V55 (44 : Int32)  (r65, V65) hr65) ⟨rfl, rfl⟩ ml_X8_175 im_X8_isNext sl_X8_isNext in_X8 cd_X8_isNext hd_X8_isNext ⟨Nat.le_of_ble_eq_true rfl, Nat.le_of_ble_eq_true rfl⟩ ⟨Nat.le_of_ble_eq_true rfl, Nat.le_of_ble_eq_true rfl⟩ rfl (Nat.le_of_ble_eq_true rfl) (by decide) ((cr_row_159 w) _) rfl rfl dX8_readsItem_65 ?_
    refine jr_if_eq X.c 85 dX8_readsItem_68 (by decide) (fun q68 => ?_) (fun q68 => ?_)
    · replace h := cr_if_t q68 h
      refine jr_sub [1] rfl ?_
      exact t_X8_readsItem_b85 X  V65  hr0 x  h
    · replace h := cr_if_f q68 h
      refine jr_aload_n X.c dX8_readsItem_71 rfl 1 rfl ?_
      refine jr_iconst X.c (v := (0 : Int32)) dX8_readsItem_72 (by decide) ?_
      refine jr_bipush X.c (v := (30 : Int32)) dX8_readsItem_73 (by decide) ?_
      obtain ⟨r75, V75, hr75, h⟩ := cr_b2_s h
      refine jc_Vi X.c (As := [.int (0 : Int32), .int (30 : Int32)]) (V1 := V75) (C := RX8) (T := TX8) (N := 22) (ci := 8) 2 (m_X8_readsNumber l w V65 (0 : Int32) (30 : Int32)  (r75, V75) hr75) ⟨rfl, rfl⟩ ml_X8_169 im_X8_readsNumber sl_X8_readsNumber in_X8 cd_X8_readsNumber hd_X8_readsNumber ⟨Nat.le_of_ble_eq_true rfl, Nat.le_of_ble_eq_true rfl⟩ ⟨Nat.le_of_ble_eq_true rfl, Nat.le_of_ble_eq_true rfl⟩ rfl (Nat.le_of_ble_eq_true rfl) (by decide) ((cr_row_159 w) _) rfl rfl dX8_readsItem_75 ?_
      refine jr_if_eq X.c 85 dX8_readsItem_78 (by decide) (fun q78 => ?_) (fun q78 => ?_)
      · replace h := cr_if_t q78 h
        refine jr_sub [1] rfl ?_
        exact t_X8_readsItem_b85 X  V75  hr0 x  h
      · replace h := cr_if_f q78 h
        refine jr_iconst X.c (v := (1 : Int32)) dX8_readsItem_81 (by decide) ?_
        refine jr_goto X.c 86 dX8_readsItem_82 (by decide) ?_
        refine jr_sub [1] rfl ?_
        exact t_X8_readsItem_b86 X (1 : Int32) V75  hr0 x  h
def f_X8_readsItem  (V : cr_Hp) : Option (Int32 × cr_Hp) :=
  cr_bd (f_X8_character (V 159 15) V) (fun (r6 : Int32) => cr_lt (cr_pt V 159 16 r6) (fun (V9 : cr_Hp) => if (V9 159 16) = (109 : Int32) then (f_X8_readsItem_b32  V9) else (if (V9 159 16) = (114 : Int32) then (f_X8_readsItem_b32  V9) else (some ((0 : Int32), V9)))))
set_option maxRecDepth 100000 in
set_option maxHeartbeats 4000000 in
theorem t_X8_readsItem {p : Program} {l : Launch} {e : Env} {s : State} {m : MethodId} {args : Array Value} {below : List Frame} {meth : Method} {c : Code} {w : cr_Wd} (X : cr_Cx w RX8 (Cond.code yX8_readsItem cX8_readsItem 2 (some .boolean)) cX8_readsItem 2 p s m args meth c)  (V : cr_Hp)  (hr0 : meth.sig.returnType = (some .boolean)) (x : Int32 × cr_Hp) (h : f_X8_readsItem  V = some x) : cr_J w 2 p l e rm_X8_readsItem s m args below meth c 0 0 (MQ below (cr_Qi w x.2 x.1) args s 0 0 (cr_A w)) V 0 [(0, .ref (w.1 159))] [] := by
  unfold f_X8_readsItem at h
  refine jr_aload_n X.c dX8_readsItem_0 rfl 0 rfl ?_
  refine jr_aload_n X.c dX8_readsItem_1 rfl 0 rfl ?_
  refine jr_aload_n X.c dX8_readsItem_2 rfl 0 rfl ?_
  refine jr_get X.c (ci := 8) (C := RX8) (T := TX8) (N := 22) (k := 15) rfl cr_in8 (by decide) ((cr_row_159 w) _) rfl (by decide) fl_X8_154 dX8_readsItem_3 ?_
  obtain ⟨r6, hr6, h⟩ := cr_bd_s h
  refine jc_Vi X.c (As := [.int (V 159 15)]) (V1 := V) (C := RX8) (T := TX8) (N := 22) (ci := 8) 1 (m_X8_character l w V (V 159 15)  r6 hr6) ⟨rfl, rfl⟩ ml_X8_157 im_X8_character sl_X8_character in_X8 cd_X8_character hd_X8_character ⟨Nat.le_of_ble_eq_true rfl, Nat.le_of_ble_eq_true rfl⟩ ⟨Nat.le_of_ble_eq_true rfl, Nat.le_of_ble_eq_true rfl⟩ rfl (Nat.le_of_ble_eq_true rfl) (by decide) ((cr_row_159 w) _) rfl rfl dX8_readsItem_6 ?_
  obtain ⟨V9, eV9, h⟩ := cr_lt_s h
  refine jr_put X.c (ci := 8) (C := RX8) (T := TX8) (N := 22) (k := 16) rfl cr_in8 tyX8 tyX8_ok nmX8 (by decide) (cr_row_159 w) rfl (Nat.le_of_ble_eq_true rfl) (by decide) rfl rfl rfl fl_X8_166 dX8_readsItem_9 eV9 ?_
  refine jr_aload_n X.c dX8_readsItem_12 rfl 0 rfl ?_
  refine jr_get X.c (ci := 8) (C := RX8) (T := TX8) (N := 22) (k := 16) rfl cr_in8 (by decide) ((cr_row_159 w) _) rfl (by decide) fl_X8_166 dX8_readsItem_13 ?_
  refine jr_bipush X.c (v := (109 : Int32)) dX8_readsItem_16 (by decide) ?_
  refine jr_icmp_eq X.c 32 dX8_readsItem_18 (by decide) (fun q18 => ?_) (fun q18 => ?_)
  · replace h := cr_if_t q18 h
    refine jr_sub [0] rfl ?_
    exact t_X8_readsItem_b32 X  V9  hr0 x  h
  · replace h := cr_if_f q18 h
    refine jr_aload_n X.c dX8_readsItem_21 rfl 0 rfl ?_
    refine jr_get X.c (ci := 8) (C := RX8) (T := TX8) (N := 22) (k := 16) rfl cr_in8 (by decide) ((cr_row_159 w) _) rfl (by decide) fl_X8_166 dX8_readsItem_22 ?_
    refine jr_bipush X.c (v := (114 : Int32)) dX8_readsItem_25 (by decide) ?_
    refine jr_icmp_eq X.c 32 dX8_readsItem_27 (by decide) (fun q27 => ?_) (fun q27 => ?_)
    · replace h := cr_if_t q27 h
      refine jr_sub [0] rfl ?_
      exact t_X8_readsItem_b32 X  V9  hr0 x  h
    · replace h := cr_if_f q27 h
      refine jr_iconst X.c (v := (0 : Int32)) dX8_readsItem_30 (by decide) ?_
      cases h
      exact jr_zret X.c (r := (0 : Int32)) hr0 (by decide) dX8_readsItem_31
set_option maxRecDepth 100000 in
set_option maxHeartbeats 4000000 in
theorem m_X8_readsItem (l : Launch) (w : cr_Wd) (V : cr_Hp)   (x : Int32 × cr_Hp) (h : f_X8_readsItem  V = some x) : Met l yX8_readsItem (cr_wds yX8_readsItem cX8_readsItem 2 (some .boolean)) rm_X8_readsItem (cr_Pc w V [.ref (w.1 159)]) (cr_Qi w x.2 x.1) 0 0 (cr_A w) := by
  refine cr_met (own := RX8) (lv := [(0, .ref (w.1 159))]) (by decide +kernel) rfl (Nat.le_of_ble_eq_true rfl) rfl (fun p e s m args below meth c X hr0 => ?_)
  exact t_X8_readsItem X  V  hr0 x h
