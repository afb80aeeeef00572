abbrev rm_X7_readItems : Room := { frames := 5, cells := 0, slots := 0, locals := 109 }
theorem hd_X7_readItems : yX7_readItems.cls = RX7 ∧ yX7_readItems.cls ≠ "java/lang/invoke/MethodHandle" ∧ yX7_readItems.cls ≠ "java/lang/invoke/VarHandle" ∧ (parseMethodDescriptor yX7_readItems.desc).map (fun d => d.parameters.length) = some 0 := by decide +kernel
def f_X7_readItems_l34 (x1_34 : Int32) (V_l34 : cr_Hp) : Option ((Int32 × cr_Hp) ⊕ ((Int32 × cr_Hp) ⊕ (Int32 × cr_Hp))) :=
  if (80 : Int32) ≤ x1_34 then (some (.inr (.inr (x1_34, V_l34)))) else (cr_bd (f_X1_hasMore  V_l34) (fun (r44 : Int32) => if r44 = 0 then (some (.inr (.inr (x1_34, V_l34)))) else (cr_bd (f_X1_readItem  V_l34) (fun (V54 : cr_Hp) => cr_b2 (f_X7_addItemRead  V54) (fun (r58 : Int32) (V58 : cr_Hp) => if r58 = 0 then (some (.inr (.inl (x1_34, V58)))) else (some (.inl ((x1_34 + (1 : Int32)), V58))))))))
set_option maxRecDepth 100000 in
set_option maxHeartbeats 4000000 in
theorem t_X7_readItems_l34 {p : Program} {l : Launch} {e : Env} {s : State} {m : MethodId} {args : Array Value} {below : List Frame} {meth : Method} {c : Code} {w : cr_Wd} {Q : State → Prop} (X : cr_Cx w RX7 (Cond.code yX7_readItems cX7_readItems 2 (some .int)) cX7_readItems 2 p s m args meth c) (x1_34 : Int32) (V_l34 : cr_Hp)  (x : (Int32 × cr_Hp) ⊕ ((Int32 × cr_Hp) ⊕ (Int32 × cr_Hp))) (h : f_X7_readItems_l34 x1_34 V_l34 = some x) (kl : ∀ (x1_34 : Int32) (V_l34 : cr_Hp), x = .inl (x1_34, V_l34) → cr_J w 2 p l e rm_X7_readItems s m args below meth c 0 0 Q V_l34 34 [(0, .ref (w.1 152)), (1, .int x1_34)] []) (kr64 : ∀ (u1_34_64 : Int32) (V_e34_64 : cr_Hp), x = .inr (.inl (u1_34_64, V_e34_64)) → cr_J w 2 p l e rm_X7_readItems s m args below meth c 0 0 Q V_e34_64 64 [(0, .ref (w.1 152)), (1, .int u1_34_64)] []) (kr73 : ∀ (u1_34_73 : Int32) (V_e34_73 : cr_Hp), x = .inr (.inr (u1_34_73, V_e34_73)) → cr_J w 2 p l e rm_X7_readItems s m args below meth c 0 0 Q V_e34_73 73 [(0, .ref (w.1 152)), (1, .int u1_34_73)] []) : cr_J w 2 p l e rm_X7_readItems s m args below meth c 0 0 Q V_l34 34 [(0, .ref (w.1 152)), (1, .int x1_34)] [] := by
  unfold f_X7_readItems_l34 at h
  refine jr_iload_n X.c dX7_readItems_34 rfl 1 rfl ?_
  refine jr_bipush X.c (v := (80 : Int32)) dX7_readItems_35 (by decide) ?_
  refine jr_icmp_ge X.c 73 dX7_readItems_37 (by decide) (fun q37 => ?_) (fun q37 => ?_)
  · replace h := cr_if_t q37 h
    cases h
    refine jr_sub [0, 1] rfl ?_
    exact kr73 x1_34 V_l34 rfl
  · replace h := cr_if_f q37 h
    refine jr_aload_n X.c dX7_readItems_40 rfl 0 rfl ?_
    refine jr_get X.c (ci := 7) (C := RX7) (T := TX7) (N := 5) (k := 4) rfl cr_in7 (by decide) ((cr_row_152 w) _) rfl (by decide) fl_X7_36 dX7_readItems_41 ?_
    obtain ⟨r44, hr44, h⟩ := cr_bd_s h
    refine jc_Vi X.c (As := []) (V1 := V_l34) (C := RX1) (T := TX1) (N := 9) (ci := 1) 0 (m_X1_hasMore l w V_l34   r44 hr44) ⟨rfl, rfl⟩ ml_X7_216 im_X1_hasMore sl_X1_hasMore in_X1 cd_X1_hasMore hd_X1_hasMore ⟨Nat.le_of_ble_eq_true rfl, Nat.le_of_ble_eq_true rfl⟩ ⟨Nat.le_of_ble_eq_true rfl, Nat.le_of_ble_eq_true rfl⟩ rfl (Nat.le_of_ble_eq_true rfl) (by decide) ((cr_row_156 w) _) rfl rfl dX7_readItems_44 ?_
    refine jr_if_eq X.c 73 dX7_readItems_47 (by decide) (fun q47 => ?_) (fun q47 => ?_)
    · replace h := cr_if_t q47 h
      cases h
      refine jr_sub [0, 1] rfl ?_
      exact kr73 x1_34 V_l34 rfl
    · replace h := cr_if_f q47 h
      refine jr_aload_n X.c dX7_readItems_50 rfl 0 rfl ?_
      refine jr_get X.c (ci := 7) (C := RX7) (T := TX7) (N := 5) (k := 4) rfl cr_in7 (by decide) ((cr_row_152 w) _) rfl (by decide) fl_X7_36 dX7_readItems_51 ?_
      obtain ⟨V54, hr54, h⟩ := cr_bd_s h
      refine jc_Vv X.c (As := []) (V1 := V54) (C := RX1) (T := TX1) (N := 9) (ci := 1) 0 (m_X1_readItem l w V_l34   V54 hr54) ⟨rfl, rfl⟩ ml_X7_213 im_X1_readItem sl_X1_readItem in_X1 cd_X1_readItem hd_X1_readItem ⟨Nat.le_of_ble_eq_true rfl, Nat.le_of_ble_eq_true rfl⟩ ⟨Nat.le_of_ble_eq_true rfl, Nat.le_of_ble_eq_true rfl⟩ rfl (Nat.le_of_ble_eq_true rfl) (by decide) ((cr_row_156 w) _) rfl rfl dX7_readItems_54 ?_
      refine jr_aload_n X.c dX7_readItems_57 rfl 0 rfl ?_
      obtain ⟨r58, V58, hr58, h⟩ := cr_b2_s h
      refine jc_Vi X.c (As := []) (V1 := V58) (C := RX7) (T := TX7) (N := 5) (ci := 7) 0 (m_X7_addItemRead l w V54   (r58, V58) hr58) ⟨rfl, rfl⟩ ml_X7_229 im_X7_addItemRead sl_X7_addItemRead in_X7 cd_X7_addItemRead hd_X7_addItemRead ⟨Nat.le_of_ble_eq_true rfl, Nat.le_of_ble_eq_true rfl⟩ ⟨Nat.le_of_ble_eq_true rfl, Nat.le_of_ble_eq_true rfl⟩ rfl (Nat.le_of_ble_eq_true rfl) (by decide) ((cr_row_152 w) _) rfl rfl dX7_readItems_58 ?_
      refine jr_if_ne X.c 67 dX7_readItems_61 (by decide) (fun q61 => ?_) (fun q61 => ?_)
      · replace h := cr_if_f q61 h
        refine jr_iinc X.c (v := (x1_34 + (1 : Int32))) (lv2 := [(1, .int (x1_34 + (1 : Int32))), (0, .ref (w.1 152))]) dX7_readItems_67 1 rfl (by rfl) (by decide) rfl ?_
        refine jr_goto X.c 34 dX7_readItems_70 (by decide) ?_
        cases h
        refine jr_sub [1, 0] rfl ?_
        exact kl (x1_34 + (1 : Int32)) V58 rfl
      · replace h := cr_if_t q61 h
        cases h
        refine jr_sub [0, 1] rfl ?_
        exact kr64 x1_34 V58 rfl
def f_X7_readItems  (V : cr_Hp) : Option (Int32 × cr_Hp) :=
  cr_b2 (f_X7_syntaxError  V) (fun (r1 : Int32) (V1 : cr_Hp) => if r1 = (-1006 : Int32) then (cr_bd (f_X0_save 0 V1) (fun (V22 : cr_Hp) => cr_bd (f_X1_start  V22) (fun (V29 : cr_Hp) => cr_bd (cr_it (fun (q : Int32 × cr_Hp) => f_X7_readItems_l34  q.1 q.2) cr_FU ((0 : Int32), V29)) (cr_sm (cr_u2 (fun (u1_34_64 : Int32) (V_e34_64 : cr_Hp) => cr_lt (cr_pt V_e34_64 157 1 (0 : Int32)) (fun (V81 : cr_Hp) => some (u1_34_64, V81)))) (cr_u2 (fun (u1_34_73 : Int32) (V_e34_73 : cr_Hp) => cr_lt (cr_pt V_e34_73 157 1 (0 : Int32)) (fun (V81 : cr_Hp) => some (u1_34_73, V81)))))))) else (some ((-1005 : Int32), V1)))
set_option maxRecDepth 100000 in
set_option maxHeartbeats 4000000 in
theorem t_X7_readItems {p : Program} {l : Launch} {e : Env} {s : State} {m : MethodId} {args : Array Value} {below : List Frame} {meth : Method} {c : Code} {w : cr_Wd} (X : cr_Cx w RX7 (Cond.code yX7_readItems cX7_readItems 2 (some .int)) cX7_readItems 2 p s m args meth c)  (V : cr_Hp)  (hr0 : meth.sig.returnType = (some .int)) (x : Int32 × cr_Hp) (h : f_X7_readItems  V = some x) : cr_J w 2 p l e rm_X7_readItems s m args below meth c 0 0 (MQ below (cr_Qi w x.2 x.1) args s 0 0 (cr_A w)) V 0 [(0, .ref (w.1 152))] [] := by
  unfold f_X7_readItems at h
  refine jr_aload_n X.c dX7_readItems_0 rfl 0 rfl ?_
  obtain ⟨r1, V1, hr1, h⟩ := cr_b2_s h
  refine jc_Vi X.c (As := []) (V1 := V1) (C := RX7) (T := TX7) (N := 5) (ci := 7) 0 (m_X7_syntaxError l w V   (r1, V1) hr1) ⟨rfl, rfl⟩ ml_X7_226 im_X7_syntaxError sl_X7_syntaxError in_X7 cd_X7_syntaxError hd_X7_syntaxError ⟨Nat.le_of_ble_eq_true rfl, Nat.le_of_ble_eq_true rfl⟩ ⟨Nat.le_of_ble_eq_true rfl, Nat.le_of_ble_eq_true rfl⟩ rfl (Nat.le_of_ble_eq_true rfl) (by decide) ((cr_row_152 w) _) rfl rfl dX7_readItems_1 ?_
  refine jr_sipush X.c (v := (-1006 : Int32)) dX7_readItems_4 (by decide) ?_
  refine jr_icmp_eq X.c 14 dX7_readItems_7 (by decide) (fun q7 => ?_) (fun q7 => ?_)
  · replace h := cr_if_t q7 h
    refine jr_aload_n X.c dX7_readItems_14 rfl 0 rfl ?_
    refine jr_get X.c (ci := 7) (C := RX7) (T := TX7) (N := 5) (k := 3) rfl cr_in7 (by decide) ((cr_row_152 w) _) rfl (by decide) fl_X7_29 dX7_readItems_15 ?_
    refine jr_aload_n X.c dX7_readItems_18 rfl 0 rfl ?_
    refine jr_get X.c (ci := 7) (C := RX7) (T := TX7) (N := 5) (k := 0) rfl cr_in7 (by decide) ((cr_row_152 w) _) rfl (by decide) fl_X7_10 dX7_readItems_19 ?_
    obtain ⟨V22, hr22, h⟩ := cr_bd_s h
    refine jc_Vv X.c (As := [.ref (w.1 0)]) (V1 := V22) (C := RX0) (T := TX0) (N := 3) (ci := 0) 1 (m_X0_save l w V1 0 cr_pg0 V22 hr22) ⟨rfl, rfl⟩ ml_X7_44 im_X0_save sl_X0_save in_X0 cd_X0_save hd_X0_save ⟨Nat.le_of_ble_eq_true rfl, Nat.le_of_ble_eq_true rfl⟩ ⟨Nat.le_of_ble_eq_true rfl, Nat.le_of_ble_eq_true rfl⟩ rfl (Nat.le_of_ble_eq_true rfl) (by decide) ((cr_row_154 w) _) rfl rfl dX7_readItems_22 ?_
    refine jr_aload_n X.c dX7_readItems_25 rfl 0 rfl ?_
    refine jr_get X.c (ci := 7) (C := RX7) (T := TX7) (N := 5) (k := 4) rfl cr_in7 (by decide) ((cr_row_152 w) _) rfl (by decide) fl_X7_36 dX7_readItems_26 ?_
    obtain ⟨V29, hr29, h⟩ := cr_bd_s h
    refine jc_Vv X.c (As := []) (V1 := V29) (C := RX1) (T := TX1) (N := 9) (ci := 1) 0 (m_X1_start l w V22   V29 hr29) ⟨rfl, rfl⟩ ml_X7_210 im_X1_start sl_X1_start in_X1 cd_X1_start hd_X1_start ⟨Nat.le_of_ble_eq_true rfl, Nat.le_of_ble_eq_true rfl⟩ ⟨Nat.le_of_ble_eq_true rfl, Nat.le_of_ble_eq_true rfl⟩ rfl (Nat.le_of_ble_eq_true rfl) (by decide) ((cr_row_156 w) _) rfl rfl dX7_readItems_29 ?_
    refine jr_iconst X.c (v := (0 : Int32)) dX7_readItems_32 (by decide) ?_
    refine jr_istore_n X.c (lv2 := [(1, .int (0 : Int32)), (0, .ref (w.1 152))]) dX7_readItems_33 rfl (by decide) rfl ?_
    obtain ⟨e34, he34, h⟩ := cr_bd_s h
    have kx64 : ∀ (u1_34_64 : Int32) (V_e34_64 : cr_Hp), e34 = (.inl (u1_34_64, V_e34_64)) → cr_J w 2 p l e rm_X7_readItems s m args below meth c 0 0 (MQ below (cr_Qi w x.2 x.1) args s 0 0 (cr_A w)) V_e34_64 64 [(0, .ref (w.1 152)), (1, .int u1_34_64)] [] := by
      intro u1_34_64 V_e34_64 qx
      rw [qx] at h
      try simp only [cr_sm, cr_u2, cr_u3, cr_u4, cr_u5, cr_u6] at h
      refine jr_goto X.c 73 dX7_readItems_64 (by decide) ?_
      refine jr_aload_n X.c dX7_readItems_73 rfl 0 rfl ?_
      refine jr_get X.c (ci := 7) (C := RX7) (T := TX7) (N := 5) (k := 4) rfl cr_in7 (by decide) ((cr_row_152 w) _) rfl (by decide) fl_X7_36 dX7_readItems_74 ?_
      refine jr_get X.c (ci := 1) (C := RX1) (T := TX1) (N := 9) (k := 0) rfl cr_in1 (by decide) ((cr_row_156 w) _) rfl (by decide) fl_X7_197 dX7_readItems_77 ?_
      refine jr_iconst X.c (v := (0 : Int32)) dX7_readItems_80 (by decide) ?_
      obtain ⟨V81, eV81, h⟩ := cr_lt_s h
      refine jr_put X.c (ci := 6) (C := RX6) (T := TX6) (N := 2) (k := 1) rfl cr_in6 tyX6 tyX6_ok nmX6 (by decide) (cr_row_157 w) rfl (Nat.le_of_ble_eq_true rfl) (by decide) rfl rfl rfl fl_X7_207 dX7_readItems_81 eV81 ?_
      refine jr_iload_n X.c dX7_readItems_84 rfl 1 rfl ?_
      cases h
      exact jr_iret X.c hr0 dX7_readItems_85
    have kx73 : ∀ (u1_34_73 : Int32) (V_e34_73 : cr_Hp), e34 = (.inr (u1_34_73, V_e34_73)) → cr_J w 2 p l e rm_X7_readItems s m args below meth c 0 0 (MQ below (cr_Qi w x.2 x.1) args s 0 0 (cr_A w)) V_e34_73 73 [(0, .ref (w.1 152)), (1, .int u1_34_73)] [] := by
      intro u1_34_73 V_e34_73 qx
      rw [qx] at h
      try simp only [cr_sm, cr_u2, cr_u3, cr_u4, cr_u5, cr_u6] at h
      refine jr_aload_n X.c dX7_readItems_73 rfl 0 rfl ?_
      refine jr_get X.c (ci := 7) (C := RX7) (T := TX7) (N := 5) (k := 4) rfl cr_in7 (by decide) ((cr_row_152 w) _) rfl (by decide) fl_X7_36 dX7_readItems_74 ?_
      refine jr_get X.c (ci := 1) (C := RX1) (T := TX1) (N := 9) (k := 0) rfl cr_in1 (by decide) ((cr_row_156 w) _) rfl (by decide) fl_X7_197 dX7_readItems_77 ?_
      refine jr_iconst X.c (v := (0 : Int32)) dX7_readItems_80 (by decide) ?_
      obtain ⟨V81, eV81, h⟩ := cr_lt_s h
      refine jr_put X.c (ci := 6) (C := RX6) (T := TX6) (N := 2) (k := 1) rfl cr_in6 tyX6 tyX6_ok nmX6 (by decide) (cr_row_157 w) rfl (Nat.le_of_ble_eq_true rfl) (by decide) rfl rfl rfl fl_X7_207 dX7_readItems_81 eV81 ?_
      refine jr_iload_n X.c dX7_readItems_84 rfl 1 rfl ?_
      cases h
      exact jr_iret X.c hr0 dX7_readItems_85
    refine jr_sub [1, 0] rfl ?_
    refine cr_it_W (f := (fun (q : Int32 × cr_Hp) => f_X7_readItems_l34  q.1 q.2)) (P := fun (q : Int32 × cr_Hp) => cr_J w 2 p l e rm_X7_readItems s m args below meth c 0 0 (MQ below (cr_Qi w x.2 x.1) args s 0 0 (cr_A w)) q.2 34 [(0, .ref (w.1 152)), (1, .int q.1)] []) (K := fun z => z = e34) (fun q x hx kl kr => ?_) cr_FU ((0 : Int32), V29) e34 he34 rfl
    obtain ⟨x1_34, V_l34⟩ := q
    exact t_X7_readItems_l34 X x1_34 V_l34  x hx (fun x1_34 V_l34 ez => kl _ ez) (fun u1_34_64 V_e34_64 ez => kx64 u1_34_64 V_e34_64 ((kr _ ez).symm)) (fun u1_34_73 V_e34_73 ez => kx73 u1_34_73 V_e34_73 ((kr _ ez).symm))
  · replace h := cr_if_f q7 h
    refine jr_sipush X.c (v := (-1005 : Int32)) dX7_readItems_10 (by decide) ?_
    cases h
    exact jr_iret X.c hr0 dX7_readItems_13
set_option maxRecDepth 100000 in
set_option maxHeartbeats 4000000 in
theorem m_X7_readItems (l : Launch) (w : cr_Wd) (V : cr_Hp)   (x : Int32 × cr_Hp) (h : f_X7_readItems  V = some x) : Met l yX7_readItems (cr_wds yX7_readItems cX7_readItems 2 (some .int)) rm_X7_readItems (cr_Pc w V [.ref (w.1 152)]) (cr_Qi w x.2 x.1) 0 0 (cr_A w) := by
  refine cr_met (own := RX7) (lv := [(0, .ref (w.1 152))]) (by decide +kernel) rfl (Nat.le_of_ble_eq_true rfl) rfl (fun p e s m args below meth c X hr0 => ?_)
  exact t_X7_readItems X  V  hr0 x h
abbrev rm_X0_restore : Room := { frames := 2, cells := 0, slots := 0, locals := 45 }
theorem hd_X0_restore : yX0_restore.cls = RX0 ∧ yX0_restore.cls ≠ "java/lang/invoke/MethodHandle" ∧ yX0_restore.cls ≠ "java/lang/invoke/VarHandle" ∧ (parseMethodDescriptor yX0_restore.desc).map (fun d => d.parameters.length) = some 1 := by decide +kernel
def f_X0_restore (p1 : Nat) (V : cr_Hp) : Option (cr_Hp) :=
  cr_bd (f_X0_slotOf ((V 154 2) - (1 : Int32)) V) (fun (r7 : Option Nat) => cr_on r7 (some V) (fun (a7 : Nat) => cr_gd (cr_pg a7) (cr_bd (f_X3_copyFrom p1 a7 V) (fun (V17 : cr_Hp) => cr_lt (cr_pt V17 154 2 ((V17 154 2) - (1 : Int32))) (fun (V27 : cr_Hp) => some V27)))))
set_option maxRecDepth 100000 in
set_option maxHeartbeats 4000000 in
theorem t_X0_restore {p : Program} {l : Launch} {e : Env} {s : State} {m : MethodId} {args : Array Value} {below : List Frame} {meth : Method} {c : Code} {w : cr_Wd} (X : cr_Cx w RX0 (Cond.code yX0_restore cX0_restore 3 none) cX0_restore 3 p s m args meth c) (p1 : Nat) (V : cr_Hp) (hp1 : cr_pg p1) (hr0 : meth.sig.returnType = none) (x : cr_Hp) (h : f_X0_restore p1 V = some x) : cr_J w 3 p l e rm_X0_restore s m args below meth c 0 0 (MQ below (cr_Qv w x) args s 0 0 (cr_A w)) V 0 [(0, .ref (w.1 154)), (1, .ref (w.1 p1))] [] := by
  unfold f_X0_restore at h
  refine jr_aload_n X.c dX0_restore_0 rfl 0 rfl ?_
  refine jr_aload_n X.c dX0_restore_1 rfl 0 rfl ?_
  refine jr_get X.c (ci := 0) (C := RX0) (T := TX0) (N := 3) (k := 2) rfl cr_in0 (by decide) ((cr_row_154 w) _) rfl (by decide) fl_X0_18 dX0_restore_2 ?_
  refine jr_iconst X.c (v := (1 : Int32)) dX0_restore_5 (by decide) ?_
  refine jr_isub X.c dX0_restore_6 ?_
  obtain ⟨r7, hr7, h⟩ := cr_bd_s h
  refine jc_Ve X.c (As := [.int ((V 154 2) - (1 : Int32))]) (V1 := V) (C := RX0) (T := TX0) (N := 3) (ci := 0) 1 (m_X0_slotOf l w V ((V 154 2) - (1 : Int32))  r7 hr7) ⟨rfl, rfl⟩ ml_X0_25 im_X0_slotOf sl_X0_slotOf in_X0 cd_X0_slotOf hd_X0_slotOf ⟨Nat.le_of_ble_eq_true rfl, Nat.le_of_ble_eq_true rfl⟩ ⟨Nat.le_of_ble_eq_true rfl, Nat.le_of_ble_eq_true rfl⟩ rfl (Nat.le_of_ble_eq_true rfl) (by decide) ((cr_row_154 w) _) rfl rfl dX0_restore_7 (fun eq7 => ?_) (fun a7 eq7 => ?_)
  · subst eq7
    replace h := cr_on_n h
    refine jr_astore_nN X.c (lv2 := [(2, .null), (0, .ref (w.1 154)), (1, .ref (w.1 p1))]) dX0_restore_10 rfl (by decide) rfl ?_
    refine jr_aload_nN X.c dX0_restore_11 rfl 0 rfl ?_
    refine jr_ifnullN X.c 30 dX0_restore_12 (by decide) ?_
    cases h
    exact jr_vret X.c hr0 dX0_restore_30
  · subst eq7
    replace h := cr_on_s h
    obtain ⟨ha7, h⟩ := cr_gd_s h
    refine jr_astore_n X.c (lv2 := [(2, .ref (w.1 a7)), (0, .ref (w.1 154)), (1, .ref (w.1 p1))]) dX0_restore_10 rfl (by decide) rfl ?_
    refine jr_aload_n X.c dX0_restore_11 rfl 0 rfl ?_
    refine jr_ifnullR X.c dX0_restore_12 ?_
    refine jr_aload_n X.c dX0_restore_15 rfl 2 rfl ?_
    refine jr_aload_n X.c dX0_restore_16 rfl 0 rfl ?_
    obtain ⟨V17, hr17, h⟩ := cr_bd_s h
    refine jc_Vv X.c (As := [.ref (w.1 a7)]) (V1 := V17) (C := RX3) (T := TX3) (N := 10) (ci := 3) 1 (m_X3_copyFrom l w V p1 a7 hp1 ha7 V17 hr17) ⟨rfl, rfl⟩ ml_X0_29 im_X3_copyFrom sl_X3_copyFrom in_X3 cd_X3_copyFrom hd_X3_copyFrom ⟨Nat.le_of_ble_eq_true rfl, Nat.le_of_ble_eq_true rfl⟩ ⟨Nat.le_of_ble_eq_true rfl, Nat.le_of_ble_eq_true rfl⟩ rfl (Nat.le_of_ble_eq_true rfl) (cr_l_pg hp1) ((cr_row_pg w hp1) _) rfl rfl dX0_restore_17 ?_
    refine jr_aload_n X.c dX0_restore_20 rfl 1 rfl ?_
    refine jr_dup X.c dX0_restore_21 rfl ?_
    refine jr_get X.c (ci := 0) (C := RX0) (T := TX0) (N := 3) (k := 2) rfl cr_in0 (by decide) ((cr_row_154 w) _) rfl (by decide) fl_X0_18 dX0_restore_22 ?_
    refine jr_iconst X.c (v := (1 : Int32)) dX0_restore_25 (by decide) ?_
    refine jr_isub X.c dX0_restore_26 ?_
    obtain ⟨V27, eV27, h⟩ := cr_lt_s h
    refine jr_put X.c (ci := 0) (C := RX0) (T := TX0) (N := 3) (k := 2) rfl cr_in0 tyX0 tyX0_ok nmX0 (by decide) (cr_row_154 w) rfl (Nat.le_of_ble_eq_true rfl) (by decide) rfl rfl rfl fl_X0_18 dX0_restore_27 eV27 ?_
    cases h
    exact jr_vret X.c hr0 dX0_restore_30
set_option maxRecDepth 100000 in
set_option maxHeartbeats 4000000 in
theorem m_X0_restore (l : Launch) (w : cr_Wd) (V : cr_Hp) (p1 : Nat) (hp1 : cr_pg p1) (x : cr_Hp) (h : f_X0_restore p1 V = some x) : Met l yX0_restore (cr_wds yX0_restore cX0_restore 3 none) rm_X0_restore (cr_Pc w V [.ref (w.1 154), .ref (w.1 p1)]) (cr_Qv w x) 0 0 (cr_A w) := by
  refine cr_met (own := RX0) (lv := [(0, .ref (w.1 154)), (1, .ref (w.1 p1))]) (by decide +kernel) rfl (Nat.le_of_ble_eq_true rfl) rfl (fun p e s m args below meth c X hr0 => ?_)
  exact t_X0_restore X p1 V hp1 hr0 x h
abbrev rm_X7_undo : Room := { frames := 3, cells := 0, slots := 0, locals := 67 }
theorem hd_X7_undo : yX7_undo.cls = RX7 ∧ yX7_undo.cls ≠ "java/lang/invoke/MethodHandle" ∧ yX7_undo.cls ≠ "java/lang/invoke/VarHandle" ∧ (parseMethodDescriptor yX7_undo.desc).map (fun d => d.parameters.length) = some 0 := by decide +kernel
def f_X7_undo  (V : cr_Hp) : Option (Int32 × cr_Hp) :=
  if (V 154 2) = 0 then (some ((-1003 : Int32), V)) else (cr_bd (f_X0_restore 0 V) (fun (V22 : cr_Hp) => some ((V22 154 2), V22)))
set_option maxRecDepth 100000 in
set_option maxHeartbeats 4000000 in
theorem t_X7_undo {p : Program} {l : Launch} {e : Env} {s : State} {m : MethodId} {args : Array Value} {below : List Frame} {meth : Method} {c : Code} {w : cr_Wd} (X : cr_Cx w RX7 (Cond.code yX7_undo cX7_undo 1 (some .int)) cX7_undo 1 p s m args meth c)  (V : cr_Hp)  (hr0 : meth.sig.returnType = (some .int)) (x : Int32 × cr_Hp) (h : f_X7_undo  V = some x) : cr_J w 1 p l e rm_X7_undo s m args below meth c 0 0 (MQ below (cr_Qi w x.2 x.1) args s 0 0 (cr_A w)) V 0 [(0, .ref (w.1 152))] [] := by
  unfold f_X7_undo at h
  refine jr_aload_n X.c dX7_undo_0 rfl 0 rfl ?_
  refine jr_get X.c (ci := 7) (C := RX7) (T := TX7) (N := 5) (k := 3) rfl cr_in7 (by decide) ((cr_row_152 w) _) rfl (by decide) fl_X7_29 dX7_undo_1 ?_
  refine jr_get X.c (ci := 0) (C := RX0) (T := TX0) (N := 3) (k := 2) rfl cr_in0 (by decide) ((cr_row_154 w) _) rfl (by decide) fl_X7_232 dX7_undo_4 ?_
  refine jr_if_ne X.c 14 dX7_undo_7 (by decide) (fun q7 => ?_) (fun q7 => ?_)
  · replace h := cr_if_f q7 h
    refine jr_aload_n X.c dX7_undo_14 rfl 0 rfl ?_
    refine jr_get X.c (ci := 7) (C := RX7) (T := TX7) (N := 5) (k := 3) rfl cr_in7 (by decide) ((cr_row_152 w) _) rfl (by decide) fl_X7_29 dX7_undo_15 ?_
    refine jr_aload_n X.c dX7_undo_18 rfl 0 rfl ?_
    refine jr_get X.c (ci := 7) (C := RX7) (T := TX7) (N := 5) (k := 0) rfl cr_in7 (by decide) ((cr_row_152 w) _) rfl (by decide) fl_X7_10 dX7_undo_19 ?_
    obtain ⟨V22, hr22, h⟩ := cr_bd_s h
    refine jc_Vv X.c (As := [.ref (w.1 0)]) (V1 := V22) (C := RX0) (T := TX0) (N := 3) (ci := 0) 1 (m_X0_restore l w V 0 cr_pg0 V22 hr22) ⟨rfl, rfl⟩ ml_X7_235 im_X0_restore sl_X0_restore in_X0 cd_X0_restore hd_X0_restore ⟨Nat.le_of_ble_eq_true rfl, Nat.le_of_ble_eq_true rfl⟩ ⟨Nat.le_of_ble_eq_true rfl, Nat.le_of_ble_eq_true rfl⟩ rfl (Nat.le_of_ble_eq_true rfl) (by decide) ((cr_row_154 w) _) rfl rfl dX7_undo_22 ?_
    refine jr_aload_n X.c dX7_undo_25 rfl 0 rfl ?_
    refine jr_get X.c (ci := 7) (C := RX7) (T := TX7) (N := 5) (k := 3) rfl cr_in7 (by decide) ((cr_row_152 w) _) rfl (by decide) fl_X7_29 dX7_undo_26 ?_
    refine jr_get X.c (ci := 0) (C := RX0) (T := TX0) (N := 3) (k := 2) rfl cr_in0 (by decide) ((cr_row_154 w) _) rfl (by decide) fl_X7_232 dX7_undo_29 ?_
    cases h
    exact jr_iret X.c hr0 dX7_undo_32
  · replace h := cr_if_t q7 h
    refine jr_sipush X.c (v := (-1003 : Int32)) dX7_undo_10 (by decide) ?_
    cases h
    exact jr_iret X.c hr0 dX7_undo_13
set_option maxRecDepth 100000 in
set_option maxHeartbeats 4000000 in
theorem m_X7_undo (l : Launch) (w : cr_Wd) (V : cr_Hp)   (x : Int32 × cr_Hp) (h : f_X7_undo  V = some x) : Met l yX7_undo (cr_wds yX7_undo cX7_undo 1 (some .int)) rm_X7_undo (cr_Pc w V [.ref (w.1 152)]) (cr_Qi w x.2 x.1) 0 0 (cr_A w) := by
  refine cr_met (own := RX7) (lv := [(0, .ref (w.1 152))]) (by decide +kernel) rfl (Nat.le_of_ble_eq_true rfl) rfl (fun p e s m args below meth c X hr0 => ?_)
  exact t_X7_undo X  V  hr0 x h
abbrev rm_X7_mix : Room := { frames := 0, cells := 0, slots := 0, locals := 0 }
theorem hd_X7_mix : yX7_mix.cls ≠ "java/lang/invoke/MethodHandle" ∧ yX7_mix.cls ≠ "java/lang/invoke/VarHandle" ∧ (parseMethodDescriptor yX7_mix.desc).map (fun d => d.parameters.length) = some 2 := by decide +kernel
def f_X7_mix (x0 : Int64) (x2 : Int64) : Option (Int64) :=
  some (((31 : Int64) * x0) + x2)
set_option maxRecDepth 100000 in
set_option maxHeartbeats 4000000 in
theorem t_X7_mix {p : Program} {l : Launch} {e : Env} {s : State} {m : MethodId} {args : Array Value} {below : List Frame} {meth : Method} {c : Code} {w : cr_Wd} (X : cr_Cx w RX7 (Cond.code yX7_mix cX7_mix 4 (some .long)) cX7_mix 4 p s m args meth c) (x0 : Int64) (x2 : Int64) (V : cr_Hp)  (hr0 : meth.sig.returnType = (some .long)) (x : Int64) (h : f_X7_mix x0 x2 = some x) : cr_J w 4 p l e rm_X7_mix s m args below meth c 0 0 (MQ below (cr_Ql w V x) args s 0 0 (cr_A w)) V 0 [(0, .long x0), (2, .long x2)] [] := by
  unfold f_X7_mix at h
  refine jr_ldc2 X.c kl_X7_273 dX7_mix_0 ?_
  refine jr_lload_n X.c dX7_mix_3 rfl 0 rfl ?_
  refine jr_lmul X.c dX7_mix_4 ?_
  refine jr_lload_n X.c dX7_mix_5 rfl 1 rfl ?_
  refine jr_ladd X.c dX7_mix_6 ?_
  cases h
  exact jr_lret X.c hr0 dX7_mix_7
set_option maxRecDepth 100000 in
set_option maxHeartbeats 4000000 in
theorem m_X7_mix (l : Launch) (w : cr_Wd) (V : cr_Hp) (x0 : Int64) (x2 : Int64)  (x : Int64) (h : f_X7_mix x0 x2 = some x) : Met l yX7_mix (cr_wds yX7_mix cX7_mix 4 (some .long)) rm_X7_mix (cr_Pc w V [.long x0, .long x2]) (cr_Ql w V x) 0 0 (cr_A w) := by
  refine cr_met (own := RX7) (lv := [(0, .long x0), (2, .long x2)]) (by decide +kernel) rfl (Nat.le_of_ble_eq_true rfl) rfl (fun p e s m args below meth c X hr0 => ?_)
  exact t_X7_mix X x0 x2 V  hr0 x h
abbrev rm_X7_digest : Room := { frames := 4, cells := 0, slots := 0, locals := 97 }
theorem hd_X7_digest : yX7_digest.cls = RX7 ∧ yX7_digest.cls ≠ "java/lang/invoke/MethodHandle" ∧ yX7_digest.cls ≠ "java/lang/invoke/VarHandle" ∧ (parseMethodDescriptor yX7_digest.desc).map (fun d => d.parameters.length) = some 0 := by decide +kernel
def f_X7_digest_l6 (x1_6 : Int64) (x3_6 : Int32) (V : cr_Hp) : Option ((Int64 × Int32) ⊕ Int64) :=
  if (8 : Int32) ≤ x3_6 then (some (.inr x1_6)) else (cr_bd (f_X7_count x3_6 V) (fun (r15 : Int32) => cr_bd (f_X7_mix x1_6 r15.toInt64) (fun (r19 : Int64) => some (.inl (r19, (x3_6 + (1 : Int32)))))))
set_option maxRecDepth 100000 in
set_option maxHeartbeats 4000000 in
theorem t_X7_digest_l6 {p : Program} {l : Launch} {e : Env} {s : State} {m : MethodId} {args : Array Value} {below : List Frame} {meth : Method} {c : Code} {w : cr_Wd} {Q : State → Prop} (X : cr_Cx w RX7 (Cond.code yX7_digest cX7_digest 5 (some .long)) cX7_digest 5 p s m args meth c) (x1_6 : Int64) (x3_6 : Int32) (V : cr_Hp)  (x : (Int64 × Int32) ⊕ Int64) (h : f_X7_digest_l6 x1_6 x3_6 V = some x) (kl : ∀ (x1_6 : Int64) (x3_6 : Int32), x = .inl (x1_6, x3_6) → cr_J w 5 p l e rm_X7_digest s m args below meth c 0 0 Q V 6 [(0, .ref (w.1 152)), (1, .long x1_6), (3, .int x3_6)] []) (kr29 : ∀ (u1_6_29 : Int64), x = .inr u1_6_29 → cr_J w 5 p l e rm_X7_digest s m args below meth c 0 0 Q V 29 [(0, .ref (w.1 152)), (1, .long u1_6_29)] []) : cr_J w 5 p l e rm_X7_digest s m args below meth c 0 0 Q V 6 [(0, .ref (w.1 152)), (1, .long x1_6), (3, .int x3_6)] [] := by
  unfold f_X7_digest_l6 at h
  refine jr_iload_n X.c dX7_digest_6 rfl 2 rfl ?_
  refine jr_bipush X.c (v := (8 : Int32)) dX7_digest_7 (by decide) ?_
  refine jr_icmp_ge X.c 29 dX7_digest_9 (by decide) (fun q9 => ?_) (fun q9 => ?_)
  · replace h := cr_if_t q9 h
    cases h
    refine jr_sub [0, 1] rfl ?_
    exact kr29 x1_6 rfl
  · replace h := cr_if_f q9 h
    refine jr_lload_n X.c dX7_digest_12 rfl 1 rfl ?_
    refine jr_aload_n X.c dX7_digest_13 rfl 0 rfl ?_
    refine jr_iload_n X.c dX7_digest_14 rfl 2 rfl ?_
    obtain ⟨r15, hr15, h⟩ := cr_bd_s h
    refine jc_Vi X.c (As := [.int x3_6]) (V1 := V) (C := RX7) (T := TX7) (N := 5) (ci := 7) 1 (m_X7_count l w V x3_6  r15 hr15) ⟨rfl, rfl⟩ ml_X7_240 im_X7_count sl_X7_count in_X7 cd_X7_count hd_X7_count ⟨Nat.le_of_ble_eq_true rfl, Nat.le_of_ble_eq_true rfl⟩ ⟨Nat.le_of_ble_eq_true rfl, Nat.le_of_ble_eq_true rfl⟩ rfl (Nat.le_of_ble_eq_true rfl) (by decide) ((cr_row_152 w) _) rfl rfl dX7_digest_15 ?_
    refine jr_i2l X.c dX7_digest_18 ?_
    obtain ⟨r19, hr19, h⟩ := cr_bd_s h
    refine jc_Sl X.c (As := [.long x1_6, .long r15.toInt64]) (V1 := V) 2 (m_X7_mix l w V x1_6 r15.toInt64  r19 hr19) ⟨rfl, rfl⟩ ml_X7_243 st_X7_mix in_X7 cd_X7_mix hd_X7_mix ⟨Nat.le_of_ble_eq_true rfl, Nat.le_of_ble_eq_true rfl⟩ ⟨Nat.le_of_ble_eq_true rfl, Nat.le_of_ble_eq_true rfl⟩ rfl (Nat.le_of_ble_eq_true rfl) rfl dX7_digest_19 ?_
    refine jr_lstore_n X.c (lv2 := [(1, .long r19), (0, .ref (w.1 152)), (3, .int x3_6)]) dX7_digest_22 rfl (by decide) rfl ?_
    refine jr_iinc X.c (v := (x3_6 + (1 : Int32))) (lv2 := [(3, .int (x3_6 + (1 : Int32))), (1, .long r19), (0, .ref (w.1 152))]) dX7_digest_23 2 rfl (by rfl) (by decide) rfl ?_
    refine jr_goto X.c 6 dX7_digest_26 (by decide) ?_
    cases h
    refine jr_sub [2, 1, 0] rfl ?_
    exact kl r19 (x3_6 + (1 : Int32)) rfl
def f_X7_digest_l45 (x3_31 : Int32) (x1_45 : Int64) (x4_45 : Int32) (V : cr_Hp) : Option ((Int64 × Int32) ⊕ Int64) :=
  if (6 : Int32) ≤ x4_45 then (some (.inr x1_45)) else (cr_bd (f_X7_marble x3_31 x4_45 V) (fun (r57 : Int32) => cr_bd (f_X7_mix x1_45 r57.toInt64) (fun (r61 : Int64) => some (.inl (r61, (x4_45 + (1 : Int32)))))))
set_option maxRecDepth 100000 in
set_option maxHeartbeats 4000000 in
theorem t_X7_digest_l45 {p : Program} {l : Launch} {e : Env} {s : State} {m : MethodId} {args : Array Value} {below : List Frame} {meth : Method} {c : Code} {w : cr_Wd} {Q : State → Prop} (X : cr_Cx w RX7 (Cond.code yX7_digest cX7_digest 5 (some .long)) cX7_digest 5 p s m args meth c) (x3_31 : Int32) (x1_45 : Int64) (x4_45 : Int32) (V : cr_Hp)  (x : (Int64 × Int32) ⊕ Int64) (h : f_X7_digest_l45 x3_31 x1_45 x4_45 V = some x) (kl : ∀ (x1_45 : Int64) (x4_45 : Int32), x = .inl (x1_45, x4_45) → cr_J w 5 p l e rm_X7_digest s m args below meth c 0 0 Q V 45 [(0, .ref (w.1 152)), (1, .long x1_45), (3, .int x3_31), (4, .int x4_45)] []) (kr71 : ∀ (u1_45_71 : Int64), x = .inr u1_45_71 → cr_J w 5 p l e rm_X7_digest s m args below meth c 0 0 Q V 71 [(0, .ref (w.1 152)), (1, .long u1_45_71), (3, .int x3_31)] []) : cr_J w 5 p l e rm_X7_digest s m args below meth c 0 0 Q V 45 [(0, .ref (w.1 152)), (1, .long x1_45), (3, .int x3_31), (4, .int x4_45)] [] := by
  unfold f_X7_digest_l45 at h
  refine jr_iload X.c dX7_digest_45 3 rfl ?_
  refine jr_bipush X.c (v := (6 : Int32)) dX7_digest_47 (by decide) ?_
  refine jr_icmp_ge X.c 71 dX7_digest_49 (by decide) (fun q49 => ?_) (fun q49 => ?_)
  · replace h := cr_if_t q49 h
    cases h
    refine jr_sub [0, 1, 2] rfl ?_
    exact kr71 x1_45 rfl
  · replace h := cr_if_f q49 h
    refine jr_lload_n X.c dX7_digest_52 rfl 1 rfl ?_
    refine jr_aload_n X.c dX7_digest_53 rfl 0 rfl ?_
    refine jr_iload_n X.c dX7_digest_54 rfl 2 rfl ?_
    refine jr_iload X.c dX7_digest_55 3 rfl ?_
    obtain ⟨r57, hr57, h⟩ := cr_bd_s h
    refine jc_Vi X.c (As := [.int x3_31, .int x4_45]) (V1 := V) (C := RX7) (T := TX7) (N := 5) (ci := 7) 2 (m_X7_marble l w V x3_31 x4_45  r57 hr57) ⟨rfl, rfl⟩ ml_X7_247 im_X7_marble sl_X7_marble in_X7 cd_X7_marble hd_X7_marble ⟨Nat.le_of_ble_eq_true rfl, Nat.le_of_ble_eq_true rfl⟩ ⟨Nat.le_of_ble_eq_true rfl, Nat.le_of_ble_eq_true rfl⟩ rfl (Nat.le_of_ble_eq_true rfl) (by decide) ((cr_row_152 w) _) rfl rfl dX7_digest_57 ?_
    refine jr_i2l X.c dX7_digest_60 ?_
    obtain ⟨r61, hr61, h⟩ := cr_bd_s h
    refine jc_Sl X.c (As := [.long x1_45, .long r57.toInt64]) (V1 := V) 2 (m_X7_mix l w V x1_45 r57.toInt64  r61 hr61) ⟨rfl, rfl⟩ ml_X7_243 st_X7_mix in_X7 cd_X7_mix hd_X7_mix ⟨Nat.le_of_ble_eq_true rfl, Nat.le_of_ble_eq_true rfl⟩ ⟨Nat.le_of_ble_eq_true rfl, Nat.le_of_ble_eq_true rfl⟩ rfl (Nat.le_of_ble_eq_true rfl) rfl dX7_digest_61 ?_
    refine jr_lstore_n X.c (lv2 := [(1, .long r61), (0, .ref (w.1 152)), (3, .int x3_31), (4, .int x4_45)]) dX7_digest_64 rfl (by decide) rfl ?_
    refine jr_iinc X.c (v := (x4_45 + (1 : Int32))) (lv2 := [(4, .int (x4_45 + (1 : Int32))), (1, .long r61), (0, .ref (w.1 152)), (3, .int x3_31)]) dX7_digest_65 3 rfl (by rfl) (by decide) rfl ?_
    refine jr_goto X.c 45 dX7_digest_68 (by decide) ?_
    cases h
    refine jr_sub [2, 1, 3, 0] rfl ?_
    exact kl r61 (x4_45 + (1 : Int32)) rfl
def f_X7_digest_l31 (x1_31 : Int64) (x3_31 : Int32) (V : cr_Hp) : Option ((Int64 × Int32) ⊕ Int64) :=
  if (V 0 2) ≤ x3_31 then (some (.inr x1_31)) else (cr_bd (cr_it (fun (q : Int64 × Int32) => f_X7_digest_l45 x3_31 q.1 q.2 V) cr_FU (x1_31, (0 : Int32))) (fun (u1_45_71 : Int64) => some (.inl (u1_45_71, (x3_31 + (1 : Int32))))))
set_option maxRecDepth 100000 in
set_option maxHeartbeats 4000000 in
theorem t_X7_digest_l31 {p : Program} {l : Launch} {e : Env} {s : State} {m : MethodId} {args : Array Value} {below : List Frame} {meth : Method} {c : Code} {w : cr_Wd} {Q : State → Prop} (X : cr_Cx w RX7 (Cond.code yX7_digest cX7_digest 5 (some .long)) cX7_digest 5 p s m args meth c) (x1_31 : Int64) (x3_31 : Int32) (V : cr_Hp)  (x : (Int64 × Int32) ⊕ Int64) (h : f_X7_digest_l31 x1_31 x3_31 V = some x) (kl : ∀ (x1_31 : Int64) (x3_31 : Int32), x = .inl (x1_31, x3_31) → cr_J w 5 p l e rm_X7_digest s m args below meth c 0 0 Q V 31 [(0, .ref (w.1 152)), (1, .long x1_31), (3, .int x3_31)] []) (kr77 : ∀ (u1_31_77 : Int64), x = .inr u1_31_77 → cr_J w 5 p l e rm_X7_digest s m args below meth c 0 0 Q V 77 [(0, .ref (w.1 152)), (1, .long u1_31_77)] []) : cr_J w 5 p l e rm_X7_digest s m args below meth c 0 0 Q V 31 [(0, .ref (w.1 152)), (1, .long x1_31), (3, .int x3_31)] [] := by
  unfold f_X7_digest_l31 at h
  refine jr_iload_n X.c dX7_digest_31 rfl 2 rfl ?_
  refine jr_aload_n X.c dX7_digest_32 rfl 0 rfl ?_
  refine jr_get X.c (ci := 7) (C := RX7) (T := TX7) (N := 5) (k := 0) rfl cr_in7 (by decide) ((cr_row_152 w) _) rfl (by decide) fl_X7_10 dX7_digest_33 ?_
  refine jr_get X.c (ci := 3) (C := RX3) (T := TX3) (N := 10) (k := 2) rfl cr_in3 (cr_l_pg cr_pg0) ((cr_row_pg w cr_pg0) _) rfl (by decide) fl_X7_93 dX7_digest_36 ?_
  refine jr_icmp_ge X.c 77 dX7_digest_39 (by decide) (fun q39 => ?_) (fun q39 => ?_)
  · replace h := cr_if_t q39 h
    cases h
    refine jr_sub [0, 1] rfl ?_
    exact kr77 x1_31 rfl
  · replace h := cr_if_f q39 h
    refine jr_iconst X.c (v := (0 : Int32)) dX7_digest_42 (by decide) ?_
    refine jr_istore X.c (lv2 := [(4, .int (0 : Int32)), (0, .ref (w.1 152)), (1, .long x1_31), (3, .int x3_31)]) dX7_digest_43 (by decide) rfl ?_
    obtain ⟨e45, he45, h⟩ := cr_bd_s h
    have kx71 : ∀ (u1_45_71 : Int64), e45 = u1_45_71 → cr_J w 5 p l e rm_X7_digest s m args below meth c 0 0 Q V 71 [(0, .ref (w.1 152)), (1, .long u1_45_71), (3, .int x3_31)] [] := by
      intro u1_45_71 qx
      rw [qx] at h
      try simp only [cr_sm, cr_u2, cr_u3, cr_u4, cr_u5, cr_u6] at h
      refine jr_iinc X.c (v := (x3_31 + (1 : Int32))) (lv2 := [(3, .int (x3_31 + (1 : Int32))), (0, .ref (w.1 152)), (1, .long u1_45_71)]) dX7_digest_71 2 rfl (by rfl) (by decide) rfl ?_
      refine jr_goto X.c 31 dX7_digest_74 (by decide) ?_
      cases h
      refine jr_sub [1, 2, 0] rfl ?_
      exact kl u1_45_71 (x3_31 + (1 : Int32)) rfl
    refine jr_sub [1, 2, 3, 0] rfl ?_
    refine cr_it_W (f := (fun (q : Int64 × Int32) => f_X7_digest_l45 x3_31 q.1 q.2 V)) (P := fun (q : Int64 × Int32) => cr_J w 5 p l e rm_X7_digest s m args below meth c 0 0 Q V 45 [(0, .ref (w.1 152)), (1, .long q.1), (3, .int x3_31), (4, .int q.2)] []) (K := fun z => z = e45) (fun q x hx kl kr => ?_) cr_FU (x1_31, (0 : Int32)) e45 he45 rfl
    obtain ⟨x1_45, x4_45⟩ := q
    exact t_X7_digest_l45 X x3_31 x1_45 x4_45 V  x hx (fun x1_45 x4_45 ez => kl _ ez) (fun u1_45_71 ez => kx71 u1_45_71 ((kr _ ez).symm))
def f_X7_digest_l93 (x3_79 : Int32) (x1_93 : Int64) (x4_93 : Int32) (V : cr_Hp) : Option ((Int64 × Int32) ⊕ Int64) :=
  if (5 : Int32) ≤ x4_93 then (some (.inr x1_93)) else (cr_bd (f_X7_ring x3_79 x4_93 V) (fun (r104 : Int32) => cr_bd (f_X7_mix x1_93 r104.toInt64) (fun (r108 : Int64) => some (.inl (r108, (x4_93 + (1 : Int32)))))))
set_option maxRecDepth 100000 in
set_option maxHeartbeats 4000000 in
theorem t_X7_digest_l93 {p : Program} {l : Launch} {e : Env} {s : State} {m : MethodId} {args : Array Value} {below : List Frame} {meth : Method} {c : Code} {w : cr_Wd} {Q : State → Prop} (X : cr_Cx w RX7 (Cond.code yX7_digest cX7_digest 5 (some .long)) cX7_digest 5 p s m args meth c) (x3_79 : Int32) (x1_93 : Int64) (x4_93 : Int32) (V : cr_Hp)  (x : (Int64 × Int32) ⊕ Int64) (h : f_X7_digest_l93 x3_79 x1_93 x4_93 V = some x) (kl : ∀ (x1_93 : Int64) (x4_93 : Int32), x = .inl (x1_93, x4_93) → cr_J w 5 p l e rm_X7_digest s m args below meth c 0 0 Q V 93 [(0, .ref (w.1 152)), (1, .long x1_93), (3, .int x3_79), (4, .int x4_93)] []) (kr118 : ∀ (u1_93_118 : Int64), x = .inr u1_93_118 → cr_J w 5 p l e rm_X7_digest s m args below meth c 0 0 Q V 118 [(0, .ref (w.1 152)), (1, .long u1_93_118), (3, .int x3_79)] []) : cr_J w 5 p l e rm_X7_digest s m args below meth c 0 0 Q V 93 [(0, .ref (w.1 152)), (1, .long x1_93), (3, .int x3_79), (4, .int x4_93)] [] := by
  unfold f_X7_digest_l93 at h
  refine jr_iload X.c dX7_digest_93 3 rfl ?_
  refine jr_iconst X.c (v := (5 : Int32)) dX7_digest_95 (by decide) ?_
  refine jr_icmp_ge X.c 118 dX7_digest_96 (by decide) (fun q96 => ?_) (fun q96 => ?_)
  · replace h := cr_if_t q96 h
    cases h
    refine jr_sub [0, 1, 2] rfl ?_
    exact kr118 x1_93 rfl
  · replace h := cr_if_f q96 h
    refine jr_lload_n X.c dX7_digest_99 rfl 1 rfl ?_
    refine jr_aload_n X.c dX7_digest_100 rfl 0 rfl ?_
    refine jr_iload_n X.c dX7_digest_101 rfl 2 rfl ?_
    refine jr_iload X.c dX7_digest_102 3 rfl ?_
    obtain ⟨r104, hr104, h⟩ := cr_bd_s h
    refine jc_Vi X.c (As := [.int x3_79, .int x4_93]) (V1 := V) (C := RX7) (T := TX7) (N := 5) (ci := 7) 2 (m_X7_ring l w V x3_79 x4_93  r104 hr104) ⟨rfl, rfl⟩ ml_X7_250 im_X7_ring sl_X7_ring in_X7 cd_X7_ring hd_X7_ring ⟨Nat.le_of_ble_eq_true rfl, Nat.le_of_ble_eq_true rfl⟩ ⟨Nat.le_of_ble_eq_true rfl, Nat.le_of_ble_eq_true rfl⟩ rfl (Nat.le_of_ble_eq_true rfl) (by decide) ((cr_row_152 w) _) rfl rfl dX7_digest_104 ?_
    refine jr_i2l X.c dX7_digest_107 ?_
    obtain ⟨r108, hr108, h⟩ := cr_bd_s h
    refine jc_Sl X.c (As := [.long x1_93, .long r104.toInt64]) (V1 := V) 2 (m_X7_mix l w V x1_93 r104.toInt64  r108 hr108) ⟨rfl, rfl⟩ ml_X7_243 st_X7_mix in_X7 cd_X7_mix hd_X7_mix ⟨Nat.le_of_ble_eq_true rfl, Nat.le_of_ble_eq_true rfl⟩ ⟨Nat.le_of_ble_eq_true rfl, Nat.le_of_ble_eq_true rfl⟩ rfl (Nat.le_of_ble_eq_true rfl) rfl dX7_digest_108 ?_
    refine jr_lstore_n X.c (lv2 := [(1, .long r108), (0, .ref (w.1 152)), (3, .int x3_79), (4, .int x4_93)]) dX7_digest_111 rfl (by decide) rfl ?_
    refine jr_iinc X.c (v := (x4_93 + (1 : Int32))) (lv2 := [(4, .int (x4_93 + (1 : Int32))), (1, .long r108), (0, .ref (w.1 152)), (3, .int x3_79)]) dX7_digest_112 3 rfl (by rfl) (by decide) rfl ?_
    refine jr_goto X.c 93 dX7_digest_115 (by decide) ?_
    cases h
    refine jr_sub [2, 1, 3, 0] rfl ?_
    exact kl r108 (x4_93 + (1 : Int32)) rfl
def f_X7_digest_l79 (x1_79 : Int64) (x3_79 : Int32) (V : cr_Hp) : Option ((Int64 × Int32) ⊕ Int64) :=
  if (V 0 3) ≤ x3_79 then (some (.inr x1_79)) else (cr_bd (cr_it (fun (q : Int64 × Int32) => f_X7_digest_l93 x3_79 q.1 q.2 V) cr_FU (x1_79, (0 : Int32))) (fun (u1_93_118 : Int64) => some (.inl (u1_93_118, (x3_79 + (1 : Int32))))))
set_option maxRecDepth 100000 in
set_option maxHeartbeats 4000000 in
theorem t_X7_digest_l79 {p : Program} {l : Launch} {e : Env} {s : State} {m : MethodId} {args : Array Value} {below : List Frame} {meth : Method} {c : Code} {w : cr_Wd} {Q : State → Prop} (X : cr_Cx w RX7 (Cond.code yX7_digest cX7_digest 5 (some .long)) cX7_digest 5 p s m args meth c) (x1_79 : Int64) (x3_79 : Int32) (V : cr_Hp)  (x : (Int64 × Int32) ⊕ Int64) (h : f_X7_digest_l79 x1_79 x3_79 V = some x) (kl : ∀ (x1_79 : Int64) (x3_79 : Int32), x = .inl (x1_79, x3_79) → cr_J w 5 p l e rm_X7_digest s m args below meth c 0 0 Q V 79 [(0, .ref (w.1 152)), (1, .long x1_79), (3, .int x3_79)] []) (kr124 : ∀ (u1_79_124 : Int64), x = .inr u1_79_124 → cr_J w 5 p l e rm_X7_digest s m args below meth c 0 0 Q V 124 [(0, .ref (w.1 152)), (1, .long u1_79_124)] []) : cr_J w 5 p l e rm_X7_digest s m args below meth c 0 0 Q V 79 [(0, .ref (w.1 152)), (1, .long x1_79), (3, .int x3_79)] [] := by
  unfold f_X7_digest_l79 at h
  refine jr_iload_n X.c dX7_digest_79 rfl 2 rfl ?_
  refine jr_aload_n X.c dX7_digest_80 rfl 0 rfl ?_
  refine jr_get X.c (ci := 7) (C := RX7) (T := TX7) (N := 5) (k := 0) rfl cr_in7 (by decide) ((cr_row_152 w) _) rfl (by decide) fl_X7_10 dX7_digest_81 ?_
  refine jr_get X.c (ci := 3) (C := RX3) (T := TX3) (N := 10) (k := 3) rfl cr_in3 (cr_l_pg cr_pg0) ((cr_row_pg w cr_pg0) _) rfl (by decide) fl_X7_122 dX7_digest_84 ?_
  refine jr_icmp_ge X.c 124 dX7_digest_87 (by decide) (fun q87 => ?_) (fun q87 => ?_)
  · replace h := cr_if_t q87 h
    cases h
    refine jr_sub [0, 1] rfl ?_
    exact kr124 x1_79 rfl
  · replace h := cr_if_f q87 h
    refine jr_iconst X.c (v := (0 : Int32)) dX7_digest_90 (by decide) ?_
    refine jr_istore X.c (lv2 := [(4, .int (0 : Int32)), (0, .ref (w.1 152)), (1, .long x1_79), (3, .int x3_79)]) dX7_digest_91 (by decide) rfl ?_
    obtain ⟨e93, he93, h⟩ := cr_bd_s h
    have kx118 : ∀ (u1_93_118 : Int64), e93 = u1_93_118 → cr_J w 5 p l e rm_X7_digest s m args below meth c 0 0 Q V 118 [(0, .ref (w.1 152)), (1, .long u1_93_118), (3, .int x3_79)] [] := by
      intro u1_93_118 qx
      rw [qx] at h
      try simp only [cr_sm, cr_u2, cr_u3, cr_u4, cr_u5, cr_u6] at h
      refine jr_iinc X.c (v := (x3_79 + (1 : Int32))) (lv2 := [(3, .int (x3_79 + (1 : Int32))), (0, .ref (w.1 152)), (1, .long u1_93_118)]) dX7_digest_118 2 rfl (by rfl) (by decide) rfl ?_
      refine jr_goto X.c 79 dX7_digest_121 (by decide) ?_
      cases h
      refine jr_sub [1, 2, 0] rfl ?_
      exact kl u1_93_118 (x3_79 + (1 : Int32)) rfl
    refine jr_sub [1, 2, 3, 0] rfl ?_
    refine cr_it_W (f := (fun (q : Int64 × Int32) => f_X7_digest_l93 x3_79 q.1 q.2 V)) (P := fun (q : Int64 × Int32) => cr_J w 5 p l e rm_X7_digest s m args below meth c 0 0 Q V 93 [(0, .ref (w.1 152)), (1, .long q.1), (3, .int x3_79), (4, .int q.2)] []) (K := fun z => z = e93) (fun q x hx kl kr => ?_) cr_FU (x1_79, (0 : Int32)) e93 he93 rfl
    obtain ⟨x1_93, x4_93⟩ := q
    exact t_X7_digest_l93 X x3_79 x1_93 x4_93 V  x hx (fun x1_93 x4_93 ez => kl _ ez) (fun u1_93_118 ez => kx118 u1_93_118 ((kr _ ez).symm))
def f_X7_digest_l126 (x1_126 : Int64) (x3_126 : Int32) (V : cr_Hp) : Option ((Int64 × Int32) ⊕ Int64) :=
  if (3 : Int32) ≤ x3_126 then (some (.inr x1_126)) else (cr_bd (f_X7_score x3_126 V) (fun (r134 : Int32) => cr_bd (f_X7_mix x1_126 r134.toInt64) (fun (r138 : Int64) => some (.inl (r138, (x3_126 + (1 : Int32)))))))
set_option maxRecDepth 100000 in
set_option maxHeartbeats 4000000 in
theorem t_X7_digest_l126 {p : Program} {l : Launch} {e : Env} {s : State} {m : MethodId} {args : Array Value} {below : List Frame} {meth : Method} {c : Code} {w : cr_Wd} {Q : State → Prop} (X : cr_Cx w RX7 (Cond.code yX7_digest cX7_digest 5 (some .long)) cX7_digest 5 p s m args meth c) (x1_126 : Int64) (x3_126 : Int32) (V : cr_Hp)  (x : (Int64 × Int32) ⊕ Int64) (h : f_X7_digest_l126 x1_126 x3_126 V = some x) (kl : ∀ (x1_126 : Int64) (x3_126 : Int32), x = .inl (x1_126, x3_126) → cr_J w 5 p l e rm_X7_digest s m args below meth c 0 0 Q V 126 [(0, .ref (w.1 152)), (1, .long x1_126), (3, .int x3_126)] []) (kr148 : ∀ (u1_126_148 : Int64), x = .inr u1_126_148 → cr_J w 5 p l e rm_X7_digest s m args below meth c 0 0 Q V 148 [(0, .ref (w.1 152)), (1, .long u1_126_148)] []) : cr_J w 5 p l e rm_X7_digest s m args below meth c 0 0 Q V 126 [(0, .ref (w.1 152)), (1, .long x1_126), (3, .int x3_126)] [] := by
  unfold f_X7_digest_l126 at h
  refine jr_iload_n X.c dX7_digest_126 rfl 2 rfl ?_
  refine jr_iconst X.c (v := (3 : Int32)) dX7_digest_127 (by decide) ?_
  refine jr_icmp_ge X.c 148 dX7_digest_128 (by decide) (fun q128 => ?_) (fun q128 => ?_)
  · replace h := cr_if_t q128 h
    cases h
    refine jr_sub [0, 1] rfl ?_
    exact kr148 x1_126 rfl
  · replace h := cr_if_f q128 h
    refine jr_lload_n X.c dX7_digest_131 rfl 1 rfl ?_
    refine jr_aload_n X.c dX7_digest_132 rfl 0 rfl ?_
    refine jr_iload_n X.c dX7_digest_133 rfl 2 rfl ?_
    obtain ⟨r134, hr134, h⟩ := cr_bd_s h
    refine jc_Vi X.c (As := [.int x3_126]) (V1 := V) (C := RX7) (T := TX7) (N := 5) (ci := 7) 1 (m_X7_score l w V x3_126  r134 hr134) ⟨rfl, rfl⟩ ml_X7_253 im_X7_score sl_X7_score in_X7 cd_X7_score hd_X7_score ⟨Nat.le_of_ble_eq_true rfl, Nat.le_of_ble_eq_true rfl⟩ ⟨Nat.le_of_ble_eq_true rfl, Nat.le_of_ble_eq_true rfl⟩ rfl (Nat.le_of_ble_eq_true rfl) (by decide) ((cr_row_152 w) _) rfl rfl dX7_digest_134 ?_
    refine jr_i2l X.c dX7_digest_137 ?_
    obtain ⟨r138, hr138, h⟩ := cr_bd_s h
    refine jc_Sl X.c (As := [.long x1_126, .long r134.toInt64]) (V1 := V) 2 (m_X7_mix l w V x1_126 r134.toInt64  r138 hr138) ⟨rfl, rfl⟩ ml_X7_243 st_X7_mix in_X7 cd_X7_mix hd_X7_mix ⟨Nat.le_of_ble_eq_true rfl, Nat.le_of_ble_eq_true rfl⟩ ⟨Nat.le_of_ble_eq_true rfl, Nat.le_of_ble_eq_true rfl⟩ rfl (Nat.le_of_ble_eq_true rfl) rfl dX7_digest_138 ?_
    refine jr_lstore_n X.c (lv2 := [(1, .long r138), (0, .ref (w.1 152)), (3, .int x3_126)]) dX7_digest_141 rfl (by decide) rfl ?_
    refine jr_iinc X.c (v := (x3_126 + (1 : Int32))) (lv2 := [(3, .int (x3_126 + (1 : Int32))), (1, .long r138), (0, .ref (w.1 152))]) dX7_digest_142 2 rfl (by rfl) (by decide) rfl ?_
    refine jr_goto X.c 126 dX7_digest_145 (by decide) ?_
    cases h
    refine jr_sub [2, 1, 0] rfl ?_
    exact kl r138 (x3_126 + (1 : Int32)) rfl
def f_X7_digest_l160 (x1_160 : Int64) (x3_160 : Int32) (V : cr_Hp) : Option ((Int64 × Int32) ⊕ Int64) :=
  if (V 0 2) ≤ x3_160 then (some (.inr x1_160)) else (cr_bd (f_X7_wayOut x3_160 V) (fun (r174 : Int32) => cr_bd (f_X7_mix x1_160 r174.toInt64) (fun (r178 : Int64) => some (.inl (r178, (x3_160 + (1 : Int32)))))))
set_option maxRecDepth 100000 in
set_option maxHeartbeats 4000000 in
theorem t_X7_digest_l160 {p : Program} {l : Launch} {e : Env} {s : State} {m : MethodId} {args : Array Value} {below : List Frame} {meth : Method} {c : Code} {w : cr_Wd} {Q : State → Prop} (X : cr_Cx w RX7 (Cond.code yX7_digest cX7_digest 5 (some .long)) cX7_digest 5 p s m args meth c) (x1_160 : Int64) (x3_160 : Int32) (V : cr_Hp)  (x : (Int64 × Int32) ⊕ Int64) (h : f_X7_digest_l160 x1_160 x3_160 V = some x) (kl : ∀ (x1_160 : Int64) (x3_160 : Int32), x = .inl (x1_160, x3_160) → cr_J w 5 p l e rm_X7_digest s m args below meth c 0 0 Q V 160 [(0, .ref (w.1 152)), (1, .long x1_160), (3, .int x3_160)] []) (kr188 : ∀ (u1_160_188 : Int64), x = .inr u1_160_188 → cr_J w 5 p l e rm_X7_digest s m args below meth c 0 0 Q V 188 [(1, .long u1_160_188)] []) : cr_J w 5 p l e rm_X7_digest s m args below meth c 0 0 Q V 160 [(0, .ref (w.1 152)), (1, .long x1_160), (3, .int x3_160)] [] := by
  unfold f_X7_digest_l160 at h
  refine jr_iload_n X.c dX7_digest_160 rfl 2 rfl ?_
  refine jr_aload_n X.c dX7_digest_161 rfl 0 rfl ?_
  refine jr_get X.c (ci := 7) (C := RX7) (T := TX7) (N := 5) (k := 0) rfl cr_in7 (by decide) ((cr_row_152 w) _) rfl (by decide) fl_X7_10 dX7_digest_162 ?_
  refine jr_get X.c (ci := 3) (C := RX3) (T := TX3) (N := 10) (k := 2) rfl cr_in3 (cr_l_pg cr_pg0) ((cr_row_pg w cr_pg0) _) rfl (by decide) fl_X7_93 dX7_digest_165 ?_
  refine jr_icmp_ge X.c 188 dX7_digest_168 (by decide) (fun q168 => ?_) (fun q168 => ?_)
  · replace h := cr_if_t q168 h
    cases h
    refine jr_sub [1] rfl ?_
    exact kr188 x1_160 rfl
  · replace h := cr_if_f q168 h
    refine jr_lload_n X.c dX7_digest_171 rfl 1 rfl ?_
    refine jr_aload_n X.c dX7_digest_172 rfl 0 rfl ?_
    refine jr_iload_n X.c dX7_digest_173 rfl 2 rfl ?_
    obtain ⟨r174, hr174, h⟩ := cr_bd_s h
    refine jc_Vi X.c (As := [.int x3_160]) (V1 := V) (C := RX7) (T := TX7) (N := 5) (ci := 7) 1 (m_X7_wayOut l w V x3_160  r174 hr174) ⟨rfl, rfl⟩ ml_X7_259 im_X7_wayOut sl_X7_wayOut in_X7 cd_X7_wayOut hd_X7_wayOut ⟨Nat.le_of_ble_eq_true rfl, Nat.le_of_ble_eq_true rfl⟩ ⟨Nat.le_of_ble_eq_true rfl, Nat.le_of_ble_eq_true rfl⟩ rfl (Nat.le_of_ble_eq_true rfl) (by decide) ((cr_row_152 w) _) rfl rfl dX7_digest_174 ?_
    refine jr_i2l X.c dX7_digest_177 ?_
    obtain ⟨r178, hr178, h⟩ := cr_bd_s h
    refine jc_Sl X.c (As := [.long x1_160, .long r174.toInt64]) (V1 := V) 2 (m_X7_mix l w V x1_160 r174.toInt64  r178 hr178) ⟨rfl, rfl⟩ ml_X7_243 st_X7_mix in_X7 cd_X7_mix hd_X7_mix ⟨Nat.le_of_ble_eq_true rfl, Nat.le_of_ble_eq_true rfl⟩ ⟨Nat.le_of_ble_eq_true rfl, Nat.le_of_ble_eq_true rfl⟩ rfl (Nat.le_of_ble_eq_true rfl) rfl dX7_digest_178 ?_
    refine jr_lstore_n X.c (lv2 := [(1, .long r178), (0, .ref (w.1 152)), (3, .int x3_160)]) dX7_digest_181 rfl (by decide) rfl ?_
    refine jr_iinc X.c (v := (x3_160 + (1 : Int32))) (lv2 := [(3, .int (x3_160 + (1 : Int32))), (1, .long r178), (0, .ref (w.1 152))]) dX7_digest_182 2 rfl (by rfl) (by decide) rfl ?_
    refine jr_goto X.c 160 dX7_digest_185 (by decide) ?_
    cases h
    refine jr_sub [2, 1, 0] rfl ?_
    exact kl r178 (x3_160 + (1 : Int32)) rfl
def f_X7_digest  (V : cr_Hp) : Option (Int64) :=
  cr_bd (cr_it (fun (q : Int64 × Int32) => f_X7_digest_l6  q.1 q.2 V) cr_FU ((4 : Int64), (0 : Int32))) (fun (u1_6_29 : Int64) => cr_bd (cr_it (fun (q : Int64 × Int32) => f_X7_digest_l31  q.1 q.2 V) cr_FU (u1_6_29, (0 : Int32))) (fun (u1_31_77 : Int64) => cr_bd (cr_it (fun (q : Int64 × Int32) => f_X7_digest_l79  q.1 q.2 V) cr_FU (u1_31_77, (0 : Int32))) (fun (u1_79_124 : Int64) => cr_bd (cr_it (fun (q : Int64 × Int32) => f_X7_digest_l126  q.1 q.2 V) cr_FU (u1_79_124, (0 : Int32))) (fun (u1_126_148 : Int64) => cr_bd (f_X7_leader  V) (fun (r150 : Int32) => cr_bd (f_X7_mix u1_126_148 r150.toInt64) (fun (r154 : Int64) => cr_bd (cr_it (fun (q : Int64 × Int32) => f_X7_digest_l160  q.1 q.2 V) cr_FU (r154, (0 : Int32))) (fun (u1_160_188 : Int64) => some u1_160_188)))))))
set_option maxRecDepth 100000 in
set_option maxHeartbeats 4000000 in
theorem t_X7_digest {p : Program} {l : Launch} {e : Env} {s : State} {m : MethodId} {args : Array Value} {below : List Frame} {meth : Method} {c : Code} {w : cr_Wd} (X : cr_Cx w RX7 (Cond.code yX7_digest cX7_digest 5 (some .long)) cX7_digest 5 p s m args meth c)  (V : cr_Hp)  (hr0 : meth.sig.returnType = (some .long)) (x : Int64) (h : f_X7_digest  V = some x) : cr_J w 5 p l e rm_X7_digest s m args below meth c 0 0 (MQ below (cr_Ql w V x) args s 0 0 (cr_A w)) V 0 [(0, .ref (w.1 152))] [] := by
  unfold f_X7_digest at h
  refine jr_ldc2 X.c kl_X7_238 dX7_digest_0 ?_
  refine jr_lstore_n X.c (lv2 := [(1, .long (4 : Int64)), (0, .ref (w.1 152))]) dX7_digest_3 rfl (by decide) rfl ?_
  refine jr_iconst X.c (v := (0 : Int32)) dX7_digest_4 (by decide) ?_
  refine jr_istore_n X.c (lv2 := [(3, .int (0 : Int32)), (1, .long (4 : Int64)), (0, .ref (w.1 152))]) dX7_digest_5 rfl (by decide) rfl ?_
  obtain ⟨e6, he6, h⟩ := cr_bd_s h
  have kx29 : ∀ (u1_6_29 : Int64), e6 = u1_6_29 → cr_J w 5 p l e rm_X7_digest s m args below meth c 0 0 (MQ below (cr_Ql w V x) args s 0 0 (cr_A w)) V 29 [(0, .ref (w.1 152)), (1, .long u1_6_29)] [] := by
    intro u1_6_29 qx
    rw [qx] at h
    try simp only [cr_sm, cr_u2, cr_u3, cr_u4, cr_u5, cr_u6] at h
    refine jr_iconst X.c (v := (0 : Int32)) dX7_digest_29 (by decide) ?_
    refine jr_istore_n X.c (lv2 := [(3, .int (0 : Int32)), (0, .ref (w.1 152)), (1, .long u1_6_29)]) dX7_digest_30 rfl (by decide) rfl ?_
    obtain ⟨e31, he31, h⟩ := cr_bd_s h
    have kx77 : ∀ (u1_31_77 : Int64), e31 = u1_31_77 → cr_J w 5 p l e rm_X7_digest s m args below meth c 0 0 (MQ below (cr_Ql w V x) args s 0 0 (cr_A w)) V 77 [(0, .ref (w.1 152)), (1, .long u1_31_77)] [] := by
      intro u1_31_77 qx
      rw [qx] at h
      try simp only [cr_sm, cr_u2, cr_u3, cr_u4, cr_u5, cr_u6] at h
      refine jr_iconst X.c (v := (0 : Int32)) dX7_digest_77 (by decide) ?_
      refine jr_istore_n X.c (lv2 := [(3, .int (0 : Int32)), (0, .ref (w.1 152)), (1, .long u1_31_77)]) dX7_digest_78 rfl (by decide) rfl ?_
      obtain ⟨e79, he79, h⟩ := cr_bd_s h
      have kx124 : ∀ (u1_79_124 : Int64), e79 = u1_79_124 → cr_J w 5 p l e rm_X7_digest s m args below meth c 0 0 (MQ below (cr_Ql w V x) args s 0 0 (cr_A w)) V 124 [(0, .ref (w.1 152)), (1, .long u1_79_124)] [] := by
        intro u1_79_124 qx
        rw [qx] at h
        try simp only [cr_sm, cr_u2, cr_u3, cr_u4, cr_u5, cr_u6] at h
        refine jr_iconst X.c (v := (0 : Int32)) dX7_digest_124 (by decide) ?_
        refine jr_istore_n X.c (lv2 := [(3, .int (0 : Int32)), (0, .ref (w.1 152)), (1, .long u1_79_124)]) dX7_digest_125 rfl (by decide) rfl ?_
        obtain ⟨e126, he126, h⟩ := cr_bd_s h
        have kx148 : ∀ (u1_126_148 : Int64), e126 = u1_126_148 → cr_J w 5 p l e rm_X7_digest s m args below meth c 0 0 (MQ below (cr_Ql w V x) args s 0 0 (cr_A w)) V 148 [(0, .ref (w.1 152)), (1, .long u1_126_148)] [] := by
          intro u1_126_148 qx
          rw [qx] at h
          try simp only [cr_sm, cr_u2, cr_u3, cr_u4, cr_u5, cr_u6] at h
          refine jr_lload_n X.c dX7_digest_148 rfl 1 rfl ?_
          refine jr_aload_n X.c dX7_digest_149 rfl 0 rfl ?_
          obtain ⟨r150, hr150, h⟩ := cr_bd_s h
          refine jc_Vi X.c (As := []) (V1 := V) (C := RX7) (T := TX7) (N := 5) (ci := 7) 0 (m_X7_leader l w V   r150 hr150) ⟨rfl, rfl⟩ ml_X7_256 im_X7_leader sl_X7_leader in_X7 cd_X7_leader hd_X7_leader ⟨Nat.le_of_ble_eq_true rfl, Nat.le_of_ble_eq_true rfl⟩ ⟨Nat.le_of_ble_eq_true rfl, Nat.le_of_ble_eq_true rfl⟩ rfl (Nat.le_of_ble_eq_true rfl) (by decide) ((cr_row_152 w) _) rfl rfl dX7_digest_150 ?_
          refine jr_i2l X.c dX7_digest_153 ?_
          obtain ⟨r154, hr154, h⟩ := cr_bd_s h
          refine jc_Sl X.c (As := [.long u1_126_148, .long r150.toInt64]) (V1 := V) 2 (m_X7_mix l w V u1_126_148 r150.toInt64  r154 hr154) ⟨rfl, rfl⟩ ml_X7_243 st_X7_mix in_X7 cd_X7_mix hd_X7_mix ⟨Nat.le_of_ble_eq_true rfl, Nat.le_of_ble_eq_true rfl⟩ ⟨Nat.le_of_ble_eq_true rfl, Nat.le_of_ble_eq_true rfl⟩ rfl (Nat.le_of_ble_eq_true rfl) rfl dX7_digest_154 ?_
          refine jr_lstore_n X.c (lv2 := [(1, .long r154), (0, .ref (w.1 152))]) dX7_digest_157 rfl (by decide) rfl ?_
          refine jr_iconst X.c (v := (0 : Int32)) dX7_digest_158 (by decide) ?_
          refine jr_istore_n X.c (lv2 := [(3, .int (0 : Int32)), (1, .long r154), (0, .ref (w.1 152))]) dX7_digest_159 rfl (by decide) rfl ?_
          obtain ⟨e160, he160, h⟩ := cr_bd_s h
          have kx188 : ∀ (u1_160_188 : Int64), e160 = u1_160_188 → cr_J w 5 p l e rm_X7_digest s m args below meth c 0 0 (MQ below (cr_Ql w V x) args s 0 0 (cr_A w)) V 188 [(1, .long u1_160_188)] [] := by
            intro u1_160_188 qx
            rw [qx] at h
            try simp only [cr_sm, cr_u2, cr_u3, cr_u4, cr_u5, cr_u6] at h
            refine jr_lload_n X.c dX7_digest_188 rfl 0 rfl ?_
            cases h
            exact jr_lret X.c hr0 dX7_digest_189
          refine jr_sub [2, 1, 0] rfl ?_
          refine cr_it_W (f := (fun (q : Int64 × Int32) => f_X7_digest_l160  q.1 q.2 V)) (P := fun (q : Int64 × Int32) => cr_J w 5 p l e rm_X7_digest s m args below meth c 0 0 (MQ below (cr_Ql w V x) args s 0 0 (cr_A w)) V 160 [(0, .ref (w.1 152)), (1, .long q.1), (3, .int q.2)] []) (K := fun z => z = e160) (fun q x hx kl kr => ?_) cr_FU (r154, (0 : Int32)) e160 he160 rfl
          obtain ⟨x1_160, x3_160⟩ := q
          exact t_X7_digest_l160 X x1_160 x3_160 V  x hx (fun x1_160 x3_160 ez => kl _ ez) (fun u1_160_188 ez => kx188 u1_160_188 ((kr _ ez).symm))
        refine jr_sub [1, 2, 0] rfl ?_
        refine cr_it_W (f := (fun (q : Int64 × Int32) => f_X7_digest_l126  q.1 q.2 V)) (P := fun (q : Int64 × Int32) => cr_J w 5 p l e rm_X7_digest s m args below meth c 0 0 (MQ below (cr_Ql w V x) args s 0 0 (cr_A w)) V 126 [(0, .ref (w.1 152)), (1, .long q.1), (3, .int q.2)] []) (K := fun z => z = e126) (fun q x hx kl kr => ?_) cr_FU (u1_79_124, (0 : Int32)) e126 he126 rfl
        obtain ⟨x1_126, x3_126⟩ := q
        exact t_X7_digest_l126 X x1_126 x3_126 V  x hx (fun x1_126 x3_126 ez => kl _ ez) (fun u1_126_148 ez => kx148 u1_126_148 ((kr _ ez).symm))
      refine jr_sub [1, 2, 0] rfl ?_
      refine cr_it_W (f := (fun (q : Int64 × Int32) => f_X7_digest_l79  q.1 q.2 V)) (P := fun (q : Int64 × Int32) => cr_J w 5 p l e rm_X7_digest s m args below meth c 0 0 (MQ below (cr_Ql w V x) args s 0 0 (cr_A w)) V 79 [(0, .ref (w.1 152)), (1, .long q.1), (3, .int q.2)] []) (K := fun z => z = e79) (fun q x hx kl kr => ?_) cr_FU (u1_31_77, (0 : Int32)) e79 he79 rfl
      obtain ⟨x1_79, x3_79⟩ := q
      exact t_X7_digest_l79 X x1_79 x3_79 V  x hx (fun x1_79 x3_79 ez => kl _ ez) (fun u1_79_124 ez => kx124 u1_79_124 ((kr _ ez).symm))
    refine jr_sub [1, 2, 0] rfl ?_
    refine cr_it_W (f := (fun (q : Int64 × Int32) => f_X7_digest_l31  q.1 q.2 V)) (P := fun (q : Int64 × Int32) => cr_J w 5 p l e rm_X7_digest s m args below meth c 0 0 (MQ below (cr_Ql w V x) args s 0 0 (cr_A w)) V 31 [(0, .ref (w.1 152)), (1, .long q.1), (3, .int q.2)] []) (K := fun z => z = e31) (fun q x hx kl kr => ?_) cr_FU (u1_6_29, (0 : Int32)) e31 he31 rfl
    obtain ⟨x1_31, x3_31⟩ := q
    exact t_X7_digest_l31 X x1_31 x3_31 V  x hx (fun x1_31 x3_31 ez => kl _ ez) (fun u1_31_77 ez => kx77 u1_31_77 ((kr _ ez).symm))
  refine jr_sub [2, 1, 0] rfl ?_
  refine cr_it_W (f := (fun (q : Int64 × Int32) => f_X7_digest_l6  q.1 q.2 V)) (P := fun (q : Int64 × Int32) => cr_J w 5 p l e rm_X7_digest s m args below meth c 0 0 (MQ below (cr_Ql w V x) args s 0 0 (cr_A w)) V 6 [(0, .ref (w.1 152)), (1, .long q.1), (3, .int q.2)] []) (K := fun z => z = e6) (fun q x hx kl kr => ?_) cr_FU ((4 : Int64), (0 : Int32)) e6 he6 rfl
  obtain ⟨x1_6, x3_6⟩ := q
  exact t_X7_digest_l6 X x1_6 x3_6 V  x hx (fun x1_6 x3_6 ez => kl _ ez) (fun u1_6_29 ez => kx29 u1_6_29 ((kr _ ez).symm))
set_option maxRecDepth 100000 in
set_option maxHeartbeats 4000000 in
theorem m_X7_digest (l : Launch) (w : cr_Wd) (V : cr_Hp)   (x : Int64) (h : f_X7_digest  V = some x) : Met l yX7_digest (cr_wds yX7_digest cX7_digest 5 (some .long)) rm_X7_digest (cr_Pc w V [.ref (w.1 152)]) (cr_Ql w V x) 0 0 (cr_A w) := by
  refine cr_met (own := RX7) (lv := [(0, .ref (w.1 152))]) (by decide +kernel) rfl (Nat.le_of_ble_eq_true rfl) rfl (fun p e s m args below meth c X hr0 => ?_)
  exact t_X7_digest X  V  hr0 x h
abbrev rm_X8_within : Room := { frames := 0, cells := 0, slots := 0, locals := 0 }
theorem hd_X8_within : yX8_within.cls ≠ "java/lang/invoke/MethodHandle" ∧ yX8_within.cls ≠ "java/lang/invoke/VarHandle" ∧ (parseMethodDescriptor yX8_within.desc).map (fun d => d.parameters.length) = some 3 := by decide +kernel
def f_X8_within (x0 : Int32) (x1 : Int32) (x2 : Int32) : Option (Int32) :=
  if x0 < x1 then (some (0 : Int32)) else (if x2 < x0 then (some (0 : Int32)) else (some (1 : Int32)))
set_option maxRecDepth 100000 in
set_option maxHeartbeats 4000000 in
theorem t_X8_within {p : Program} {l : Launch} {e : Env} {s : State} {m : MethodId} {args : Array Value} {below : List Frame} {meth : Method} {c : Code} {w : cr_Wd} (X : cr_Cx w RX8 (Cond.code yX8_within cX8_within 3 (some .boolean)) cX8_within 3 p s m args meth c) (x0 : Int32) (x1 : Int32) (x2 : Int32) (V : cr_Hp)  (hr0 : meth.sig.returnType = (some .boolean)) (x : Int32) (h : f_X8_within x0 x1 x2 = some x) : cr_J w 3 p l e rm_X8_within s m args below meth c 0 0 (MQ below (cr_Qi w V x) args s 0 0 (cr_A w)) V 0 [(0, .int x0), (1, .int x1), (2, .int x2)] [] := by
  unfold f_X8_within at h
  refine jr_iload_n X.c dX8_within_0 rfl 0 rfl ?_
  refine jr_iload_n X.c dX8_within_1 rfl 1 rfl ?_
  refine jr_icmp_lt X.c 14 dX8_within_2 (by decide) (fun q2 => ?_) (fun q2 => ?_)
  · replace h := cr_if_t q2 h
    refine jr_iconst X.c (v := (0 : Int32)) dX8_within_14 (by decide) ?_
    cases h
    exact jr_zret X.c (r := (0 : Int32)) hr0 (by decide) dX8_within_15
  · replace h := cr_if_f q2 h
    refine jr_iload_n X.c dX8_within_5 rfl 0 rfl ?_
    refine jr_iload_n X.c dX8_within_6 rfl 2 rfl ?_
    refine jr_icmp_gt X.c 14 dX8_within_7 (by decide) (fun q7 => ?_) (fun q7 => ?_)
    · replace h := cr_if_t q7 h
      refine jr_iconst X.c (v := (0 : Int32)) dX8_within_14 (by decide) ?_
      cases h
      exact jr_zret X.c (r := (0 : Int32)) hr0 (by decide) dX8_within_15
    · replace h := cr_if_f q7 h
      refine jr_iconst X.c (v := (1 : Int32)) dX8_within_10 (by decide) ?_
      refine jr_goto X.c 15 dX8_within_11 (by decide) ?_
      cases h
      exact jr_zret X.c (r := (1 : Int32)) hr0 (by decide) dX8_within_15
set_option maxRecDepth 100000 in
set_option maxHeartbeats 4000000 in
theorem m_X8_within (l : Launch) (w : cr_Wd) (V : cr_Hp) (x0 : Int32) (x1 : Int32) (x2 : Int32)  (x : Int32) (h : f_X8_within x0 x1 x2 = some x) : Met l yX8_within (cr_wds yX8_within cX8_within 3 (some .boolean)) rm_X8_within (cr_Pc w V [.int x0, .int x1, .int x2]) (cr_Qi w V x) 0 0 (cr_A w) := by
  refine cr_met (own := RX8) (lv := [(0, .int x0), (1, .int x1), (2, .int x2)]) (by decide +kernel) rfl (Nat.le_of_ble_eq_true rfl) rfl (fun p e s m args below meth c X hr0 => ?_)
  exact t_X8_within X x0 x1 x2 V  hr0 x h
abbrev rm_X8_isPoint : Room := { frames := 1, cells := 0, slots := 0, locals := 22 }
theorem hd_X8_isPoint : yX8_isPoint.cls ≠ "java/lang/invoke/MethodHandle" ∧ yX8_isPoint.cls ≠ "java/lang/invoke/VarHandle" ∧ (parseMethodDescriptor yX8_isPoint.desc).map (fun d => d.parameters.length) = some 2 := by decide +kernel
def f_X8_isPoint (x0 : Int32) (x1 : Int32) : Option (Int32) :=
  cr_bd (f_X8_within x0 (0 : Int32) (30 : Int32)) (fun (r4 : Int32) => if r4 = 0 then (some (0 : Int32)) else (cr_bd (f_X8_within x1 (0 : Int32) (30 : Int32)) (fun (r14 : Int32) => if r14 = 0 then (some (0 : Int32)) else (some (1 : Int32)))))
set_option maxRecDepth 100000 in
set_option maxHeartbeats 4000000 in
theorem t_X8_isPoint {p : Program} {l : Launch} {e : Env} {s : State} {m : MethodId} {args : Array Value} {below : List Frame} {meth : Method} {c : Code} {w : cr_Wd} (X : cr_Cx w RX8 (Cond.code yX8_isPoint cX8_isPoint 2 (some .boolean)) cX8_isPoint 2 p s m args meth c) (x0 : Int32) (x1 : Int32) (V : cr_Hp)  (hr0 : meth.sig.returnType = (some .boolean)) (x : Int32) (h : f_X8_isPoint x0 x1 = some x) : cr_J w 2 p l e rm_X8_isPoint s m args below meth c 0 0 (MQ below (cr_Qi w V x) args s 0 0 (cr_A w)) V 0 [(0, .int x0), (1, .int x1)] [] := by
  unfold f_X8_isPoint at h
  refine jr_iload_n X.c dX8_isPoint_0 rfl 0 rfl ?_
  refine jr_iconst X.c (v := (0 : Int32)) dX8_isPoint_1 (by decide) ?_
  refine jr_bipush X.c (v := (30 : Int32)) dX8_isPoint_2 (by decide) ?_
  obtain ⟨r4, hr4, h⟩ := cr_bd_s h
  refine jc_Si X.c (As := [.int x0, .int (0 : Int32), .int (30 : Int32)]) (V1 := V) 3 (m_X8_within l w V x0 (0 : Int32) (30 : Int32)  r4 hr4) ⟨rfl, rfl⟩ ml_X8_39 st_X8_within in_X8 cd_X8_within hd_X8_within ⟨Nat.le_of_ble_eq_true rfl, Nat.le_of_ble_eq_true rfl⟩ ⟨Nat.le_of_ble_eq_true rfl, Nat.le_of_ble_eq_true rfl⟩ rfl (Nat.le_of_ble_eq_true rfl) rfl dX8_isPoint_4 ?_
  refine jr_if_eq X.c 24 dX8_isPoint_7 (by decide) (fun q7 => ?_) (fun q7 => ?_)
  · replace h := cr_if_t q7 h
    refine jr_iconst X.c (v := (0 : Int32)) dX8_isPoint_24 (by decide) ?_
    cases h
    exact jr_zret X.c (r := (0 : Int32)) hr0 (by decide) dX8_isPoint_25
  · replace h := cr_if_f q7 h
    refine jr_iload_n X.c dX8_isPoint_10 rfl 1 rfl ?_
    refine jr_iconst X.c (v := (0 : Int32)) dX8_isPoint_11 (by decide) ?_
    refine jr_bipush X.c (v := (30 : Int32)) dX8_isPoint_12 (by decide) ?_
    obtain ⟨r14, hr14, h⟩ := cr_bd_s h
    refine jc_Si X.c (As := [.int x1, .int (0 : Int32), .int (30 : Int32)]) (V1 := V) 3 (m_X8_within l w V x1 (0 : Int32) (30 : Int32)  r14 hr14) ⟨rfl, rfl⟩ ml_X8_39 st_X8_within in_X8 cd_X8_within hd_X8_within ⟨Nat.le_of_ble_eq_true rfl, Nat.le_of_ble_eq_true rfl⟩ ⟨Nat.le_of_ble_eq_true rfl, Nat.le_of_ble_eq_true rfl⟩ rfl (Nat.le_of_ble_eq_true rfl) rfl dX8_isPoint_14 ?_
    refine jr_if_eq X.c 24 dX8_isPoint_17 (by decide) (fun q17 => ?_) (fun q17 => ?_)
    · replace h := cr_if_t q17 h
      refine jr_iconst X.c (v := (0 : Int32)) dX8_isPoint_24 (by decide) ?_
      cases h
      exact jr_zret X.c (r := (0 : Int32)) hr0 (by decide) dX8_isPoint_25
    · replace h := cr_if_f q17 h
      refine jr_iconst X.c (v := (1 : Int32)) dX8_isPoint_20 (by decide) ?_
      refine jr_goto X.c 25 dX8_isPoint_21 (by decide) ?_
      cases h
      exact jr_zret X.c (r := (1 : Int32)) hr0 (by decide) dX8_isPoint_25
set_option maxRecDepth 100000 in
set_option maxHeartbeats 4000000 in
theorem m_X8_isPoint (l : Launch) (w : cr_Wd) (V : cr_Hp) (x0 : Int32) (x1 : Int32)  (x : Int32) (h : f_X8_isPoint x0 x1 = some x) : Met l yX8_isPoint (cr_wds yX8_isPoint cX8_isPoint 2 (some .boolean)) rm_X8_isPoint (cr_Pc w V [.int x0, .int x1]) (cr_Qi w V x) 0 0 (cr_A w) := by
  refine cr_met (own := RX8) (lv := [(0, .int x0), (1, .int x1)]) (by decide +kernel) rfl (Nat.le_of_ble_eq_true rfl) rfl (fun p e s m args below meth c X hr0 => ?_)
  exact t_X8_isPoint X x0 x1 V  hr0 x h
abbrev rm_X8_part : Room := { frames := 0, cells := 0, slots := 0, locals := 0 }
theorem hd_X8_part : yX8_part.cls = RX8 ∧ yX8_part.cls ≠ "java/lang/invoke/MethodHandle" ∧ yX8_part.cls ≠ "java/lang/invoke/VarHandle" ∧ (parseMethodDescriptor yX8_part.desc).map (fun d => d.parameters.length) = some 2 := by decide +kernel
def f_X8_part (x1 : Int32) (x2 : Int32) (V : cr_Hp) : Option (Int32) :=
  cr_gd (cr_ix (((8 : Int32) + ((5 : Int32) * x1)) + x2) 80) (some (V 160 (((8 : Int32) + ((5 : Int32) * x1)) + x2).toNatClampNeg))
set_option maxRecDepth 100000 in
set_option maxHeartbeats 4000000 in
theorem t_X8_part {p : Program} {l : Launch} {e : Env} {s : State} {m : MethodId} {args : Array Value} {below : List Frame} {meth : Method} {c : Code} {w : cr_Wd} (X : cr_Cx w RX8 (Cond.code yX8_part cX8_part 3 (some .int)) cX8_part 3 p s m args meth c) (x1 : Int32) (x2 : Int32) (V : cr_Hp)  (hr0 : meth.sig.returnType = (some .int)) (x : Int32) (h : f_X8_part x1 x2 V = some x) : cr_J w 3 p l e rm_X8_part s m args below meth c 0 0 (MQ below (cr_Qi w V x) args s 0 0 (cr_A w)) V 0 [(0, .ref (w.1 159)), (1, .int x1), (2, .int x2)] [] := by
  unfold f_X8_part at h
  refine jr_aload_n X.c dX8_part_0 rfl 0 rfl ?_
  refine jr_get X.c (ci := 8) (C := RX8) (T := TX8) (N := 22) (k := 0) rfl cr_in8 (by decide) ((cr_row_159 w) _) rfl (by decide) fl_X8_7 dX8_part_1 ?_
  refine jr_bipush X.c (v := (8 : Int32)) dX8_part_4 (by decide) ?_
  refine jr_iconst X.c (v := (5 : Int32)) dX8_part_6 (by decide) ?_
  refine jr_iload_n X.c dX8_part_7 rfl 1 rfl ?_
  refine jr_imul X.c dX8_part_8 ?_
  refine jr_iadd X.c dX8_part_9 ?_
  refine jr_iload_n X.c dX8_part_10 rfl 2 rfl ?_
  refine jr_iadd X.c dX8_part_11 ?_
  obtain ⟨hi12, h⟩ := cr_gd_s h
  refine jr_iald X.c (by decide) ((cr_row_160 w) _) hi12 dX8_part_12 ?_
  cases h
  exact jr_iret X.c hr0 dX8_part_13
set_option maxRecDepth 100000 in
set_option maxHeartbeats 4000000 in
theorem m_X8_part (l : Launch) (w : cr_Wd) (V : cr_Hp) (x1 : Int32) (x2 : Int32)  (x : Int32) (h : f_X8_part x1 x2 V = some x) : Met l yX8_part (cr_wds yX8_part cX8_part 3 (some .int)) rm_X8_part (cr_Pc w V [.ref (w.1 159), .int x1, .int x2]) (cr_Qi w V x) 0 0 (cr_A w) := by
  refine cr_met (own := RX8) (lv := [(0, .ref (w.1 159)), (1, .int x1), (2, .int x2)]) (by decide +kernel) rfl (Nat.le_of_ble_eq_true rfl) rfl (fun p e s m args below meth c X hr0 => ?_)
  exact t_X8_part X x1 x2 V  hr0 x h
abbrev rm_X8_isThere : Room := { frames := 1, cells := 0, slots := 0, locals := 22 }
theorem hd_X8_isThere : yX8_isThere.cls = RX8 ∧ yX8_isThere.cls ≠ "java/lang/invoke/MethodHandle" ∧ yX8_isThere.cls ≠ "java/lang/invoke/VarHandle" ∧ (parseMethodDescriptor yX8_isThere.desc).map (fun d => d.parameters.length) = some 1 := by decide +kernel
def f_X8_isThere (x1 : Int32) (V : cr_Hp) : Option (Int32) :=
  cr_bd (f_X8_part x1 (4 : Int32) V) (fun (r3 : Int32) => if r3 = (-1006 : Int32) then (some (1 : Int32)) else (some (0 : Int32)))
set_option maxRecDepth 100000 in
set_option maxHeartbeats 4000000 in
theorem t_X8_isThere {p : Program} {l : Launch} {e : Env} {s : State} {m : MethodId} {args : Array Value} {below : List Frame} {meth : Method} {c : Code} {w : cr_Wd} (X : cr_Cx w RX8 (Cond.code yX8_isThere cX8_isThere 2 (some .boolean)) cX8_isThere 2 p s m args meth c) (x1 : Int32) (V : cr_Hp)  (hr0 : meth.sig.returnType = (some .boolean)) (x : Int32) (h : f_X8_isThere x1 V = some x) : cr_J w 2 p l e rm_X8_isThere s m args below meth c 0 0 (MQ below (cr_Qi w V x) args s 0 0 (cr_A w)) V 0 [(0, .ref (w.1 159)), (1, .int x1)] [] := by
  unfold f_X8_isThere at h
  refine jr_aload_n X.c dX8_isThere_0 rfl 0 rfl ?_
  refine jr_iload_n X.c dX8_isThere_1 rfl 1 rfl ?_
  refine jr_iconst X.c (v := (4 : Int32)) dX8_isThere_2 (by decide) ?_
  obtain ⟨r3, hr3, h⟩ := cr_bd_s h
  refine jc_Vi X.c (As := [.int x1, .int (4 : Int32)]) (V1 := V) (C := RX8) (T := TX8) (N := 22) (ci := 8) 2 (m_X8_part l w V x1 (4 : Int32)  r3 hr3) ⟨rfl, rfl⟩ ml_X8_43 im_X8_part sl_X8_part in_X8 cd_X8_part hd_X8_part ⟨Nat.le_of_ble_eq_true rfl, Nat.le_of_ble_eq_true rfl⟩ ⟨Nat.le_of_ble_eq_true rfl, Nat.le_of_ble_eq_true rfl⟩ rfl (Nat.le_of_ble_eq_true rfl) (by decide) ((cr_row_159 w) _) rfl rfl dX8_isThere_3 ?_
  refine jr_sipush X.c (v := (-1006 : Int32)) dX8_isThere_6 (by decide) ?_
  refine jr_icmp_ne X.c 16 dX8_isThere_9 (by decide) (fun q9 => ?_) (fun q9 => ?_)
  · replace h := cr_if_f q9 h
    refine jr_iconst X.c (v := (0 : Int32)) dX8_isThere_16 (by decide) ?_
    cases h
    exact jr_zret X.c (r := (0 : Int32)) hr0 (by decide) dX8_isThere_17
  · replace h := cr_if_t q9 h
    refine jr_iconst X.c (v := (1 : Int32)) dX8_isThere_12 (by decide) ?_
    refine jr_goto X.c 17 dX8_isThere_13 (by decide) ?_
    cases h
    exact jr_zret X.c (r := (1 : Int32)) hr0 (by decide) dX8_isThere_17
set_option maxRecDepth 100000 in
set_option maxHeartbeats 4000000 in
theorem m_X8_isThere (l : Launch) (w : cr_Wd) (V : cr_Hp) (x1 : Int32)  (x : Int32) (h : f_X8_isThere x1 V = some x) : Met l yX8_isThere (cr_wds yX8_isThere cX8_isThere 2 (some .boolean)) rm_X8_isThere (cr_Pc w V [.ref (w.1 159), .int x1]) (cr_Qi w V x) 0 0 (cr_A w) := by
  refine cr_met (own := RX8) (lv := [(0, .ref (w.1 159)), (1, .int x1)]) (by decide +kernel) rfl (Nat.le_of_ble_eq_true rfl) rfl (fun p e s m args below meth c X hr0 => ?_)
  exact t_X8_isThere X x1 V  hr0 x h
abbrev rm_X8_marbleAt : Room := { frames := 2, cells := 0, slots := 0, locals := 43 }
theorem hd_X8_marbleAt : yX8_marbleAt.cls = RX8 ∧ yX8_marbleAt.cls ≠ "java/lang/invoke/MethodHandle" ∧ yX8_marbleAt.cls ≠ "java/lang/invoke/VarHandle" ∧ (parseMethodDescriptor yX8_marbleAt.desc).map (fun d => d.parameters.length) = some 2 := by decide +kernel
def f_X8_marbleAt_l7 (x1 : Int32) (x2 : Int32) (x3_7 : Int32) (x4_7 : Int32) (V : cr_Hp) : Option ((Int32 × Int32) ⊕ Int32) :=
  cr_gd (cr_ix (0 : Int32) 80) (if (V 160 (0 : Int32).toNatClampNeg) ≤ x4_7 then (some (.inr x3_7)) else (cr_bd (f_X8_isThere x4_7 V) (fun (r21 : Int32) => if r21 = 0 then (some (.inl (x3_7, (x4_7 + (1 : Int32))))) else (cr_bd (f_X8_part x4_7 (0 : Int32) V) (fun (r31 : Int32) => if r31 = x1 then (cr_bd (f_X8_part x4_7 (1 : Int32) V) (fun (r42 : Int32) => if r42 = x2 then (some (.inl (x4_7, (x4_7 + (1 : Int32))))) else (some (.inl (x3_7, (x4_7 + (1 : Int32))))))) else (some (.inl (x3_7, (x4_7 + (1 : Int32))))))))))
set_option maxRecDepth 100000 in
set_option maxHeartbeats 4000000 in
theorem t_X8_marbleAt_l7 {p : Program} {l : Launch} {e : Env} {s : State} {m : MethodId} {args : Array Value} {below : List Frame} {meth : Method} {c : Code} {w : cr_Wd} {Q : State → Prop} (X : cr_Cx w RX8 (Cond.code yX8_marbleAt cX8_marbleAt 5 (some .int)) cX8_marbleAt 5 p s m args meth c) (x1 : Int32) (x2 : Int32) (x3_7 : Int32) (x4_7 : Int32) (V : cr_Hp)  (x : (Int32 × Int32) ⊕ Int32) (h : f_X8_marbleAt_l7 x1 x2 x3_7 x4_7 V = some x) (kl : ∀ (x3_7 : Int32) (x4_7 : Int32), x = .inl (x3_7, x4_7) → cr_J w 5 p l e rm_X8_marbleAt s m args below meth c 0 0 Q V 7 [(0, .ref (w.1 159)), (1, .int x1), (2, .int x2), (3, .int x3_7), (4, .int x4_7)] []) (kr62 : ∀ (u3_7_62 : Int32), x = .inr u3_7_62 → cr_J w 5 p l e rm_X8_marbleAt s m args below meth c 0 0 Q V 62 [(3, .int u3_7_62)] []) : cr_J w 5 p l e rm_X8_marbleAt s m args below meth c 0 0 Q V 7 [(0, .ref (w.1 159)), (1, .int x1), (2, .int x2), (3, .int x3_7), (4, .int x4_7)] [] := by
  unfold f_X8_marbleAt_l7 at h
  refine jr_iload X.c dX8_marbleAt_7 4 rfl ?_
  refine jr_aload_n X.c dX8_marbleAt_9 rfl 0 rfl ?_
  refine jr_get X.c (ci := 8) (C := RX8) (T := TX8) (N := 22) (k := 0) rfl cr_in8 (by decide) ((cr_row_159 w) _) rfl (by decide) fl_X8_7 dX8_marbleAt_10 ?_
  refine jr_iconst X.c (v := (0 : Int32)) dX8_marbleAt_13 (by decide) ?_
  obtain ⟨hi14, h⟩ := cr_gd_s h
  refine jr_iald X.c (by decide) ((cr_row_160 w) _) hi14 dX8_marbleAt_14 ?_
  refine jr_icmp_ge X.c 62 dX8_marbleAt_15 (by decide) (fun q15 => ?_) (fun q15 => ?_)
  · replace h := cr_if_t q15 h
    cases h
    refine jr_sub [3] rfl ?_
    exact kr62 x3_7 rfl
  · replace h := cr_if_f q15 h
    refine jr_aload_n X.c dX8_marbleAt_18 rfl 0 rfl ?_
    refine jr_iload X.c dX8_marbleAt_19 4 rfl ?_
    obtain ⟨r21, hr21, h⟩ := cr_bd_s h
    refine jc_Vi X.c (As := [.int x4_7]) (V1 := V) (C := RX8) (T := TX8) (N := 22) (ci := 8) 1 (m_X8_isThere l w V x4_7  r21 hr21) ⟨rfl, rfl⟩ ml_X8_56 im_X8_isThere sl_X8_isThere in_X8 cd_X8_isThere hd_X8_isThere ⟨Nat.le_of_ble_eq_true rfl, Nat.le_of_ble_eq_true rfl⟩ ⟨Nat.le_of_ble_eq_true rfl, Nat.le_of_ble_eq_true rfl⟩ rfl (Nat.le_of_ble_eq_true rfl) (by decide) ((cr_row_159 w) _) rfl rfl dX8_marbleAt_21 ?_
    refine jr_if_eq X.c 54 dX8_marbleAt_24 (by decide) (fun q24 => ?_) (fun q24 => ?_)
    · replace h := cr_if_t q24 h
      refine jr_iload_n X.c dX8_marbleAt_54 rfl 3 rfl ?_
      refine jr_istore_n X.c (lv2 := [(3, .int x3_7), (0, .ref (w.1 159)), (1, .int x1), (2, .int x2), (4, .int x4_7)]) dX8_marbleAt_55 rfl (by decide) rfl ?_
      refine jr_iinc X.c (v := (x4_7 + (1 : Int32))) (lv2 := [(4, .int (x4_7 + (1 : Int32))), (3, .int x3_7), (0, .ref (w.1 159)), (1, .int x1), (2, .int x2)]) dX8_marbleAt_56 4 rfl (by rfl) (by decide) rfl ?_
      refine jr_goto X.c 7 dX8_marbleAt_59 (by decide) ?_
      cases h
      refine jr_sub [2, 3, 4, 1, 0] rfl ?_
      exact kl x3_7 (x4_7 + (1 : Int32)) rfl
    · replace h := cr_if_f q24 h
      refine jr_aload_n X.c dX8_marbleAt_27 rfl 0 rfl ?_
      refine jr_iload X.c dX8_marbleAt_28 4 rfl ?_
      refine jr_iconst X.c (v := (0 : Int32)) dX8_marbleAt_30 (by decide) ?_
      obtain ⟨r31, hr31, h⟩ := cr_bd_s h
      refine jc_Vi X.c (As := [.int x4_7, .int (0 : Int32)]) (V1 := V) (C := RX8) (T := TX8) (N := 22) (ci := 8) 2 (m_X8_part l w V x4_7 (0 : Int32)  r31 hr31) ⟨rfl, rfl⟩ ml_X8_43 im_X8_part sl_X8_part in_X8 cd_X8_part hd_X8_part ⟨Nat.le_of_ble_eq_true rfl, Nat.le_of_ble_eq_true rfl⟩ ⟨Nat.le_of_ble_eq_true rfl, Nat.le_of_ble_eq_true rfl⟩ rfl (Nat.le_of_ble_eq_true rfl) (by decide) ((cr_row_159 w) _) rfl rfl dX8_marbleAt_31 ?_
      refine jr_iload_n X.c dX8_marbleAt_34 rfl 1 rfl ?_
      refine jr_icmp_ne X.c 54 dX8_marbleAt_35 (by decide) (fun q35 => ?_) (fun q35 => ?_)
      · replace h := cr_if_f q35 h
        refine jr_iload_n X.c dX8_marbleAt_54 rfl 3 rfl ?_
        refine jr_istore_n X.c (lv2 := [(3, .int x3_7), (0, .ref (w.1 159)), (1, .int x1), (2, .int x2), (4, .int x4_7)]) dX8_marbleAt_55 rfl (by decide) rfl ?_
        refine jr_iinc X.c (v := (x4_7 + (1 : Int32))) (lv2 := [(4, .int (x4_7 + (1 : Int32))), (3, .int x3_7), (0, .ref (w.1 159)), (1, .int x1), (2, .int x2)]) dX8_marbleAt_56 4 rfl (by rfl) (by decide) rfl ?_
        refine jr_goto X.c 7 dX8_marbleAt_59 (by decide) ?_
        cases h
        refine jr_sub [2, 3, 4, 1, 0] rfl ?_
        exact kl x3_7 (x4_7 + (1 : Int32)) rfl
      · replace h := cr_if_t q35 h
        refine jr_aload_n X.c dX8_marbleAt_38 rfl 0 rfl ?_
        refine jr_iload X.c dX8_marbleAt_39 4 rfl ?_
        refine jr_iconst X.c (v := (1 : Int32)) dX8_marbleAt_41 (by decide) ?_
        obtain ⟨r42, hr42, h⟩ := cr_bd_s h
        refine jc_Vi X.c (As := [.int x4_7, .int (1 : Int32)]) (V1 := V) (C := RX8) (T := TX8) (N := 22) (ci := 8) 2 (m_X8_part l w V x4_7 (1 : Int32)  r42 hr42) ⟨rfl, rfl⟩ ml_X8_43 im_X8_part sl_X8_part in_X8 cd_X8_part hd_X8_part ⟨Nat.le_of_ble_eq_true rfl, Nat.le_of_ble_eq_true rfl⟩ ⟨Nat.le_of_ble_eq_true rfl, Nat.le_of_ble_eq_true rfl⟩ rfl (Nat.le_of_ble_eq_true rfl) (by decide) ((cr_row_159 w) _) rfl rfl dX8_marbleAt_42 ?_
        refine jr_iload_n X.c dX8_marbleAt_45 rfl 2 rfl ?_
        refine jr_icmp_ne X.c 54 dX8_marbleAt_46 (by decide) (fun q46 => ?_) (fun q46 => ?_)
        · replace h := cr_if_f q46 h
          refine jr_iload_n X.c dX8_marbleAt_54 rfl 3 rfl ?_
          refine jr_istore_n X.c (lv2 := [(3, .int x3_7), (0, .ref (w.1 159)), (1, .int x1), (2, .int x2), (4, .int x4_7)]) dX8_marbleAt_55 rfl (by decide) rfl ?_
          refine jr_iinc X.c (v := (x4_7 + (1 : Int32))) (lv2 := [(4, .int (x4_7 + (1 : Int32))), (3, .int x3_7), (0, .ref (w.1 159)), (1, .int x1), (2, .int x2)]) dX8_marbleAt_56 4 rfl (by rfl) (by decide) rfl ?_
          refine jr_goto X.c 7 dX8_marbleAt_59 (by decide) ?_
          cases h
          refine jr_sub [2, 3, 4, 1, 0] rfl ?_
          exact kl x3_7 (x4_7 + (1 : Int32)) rfl
        · replace h := cr_if_t q46 h
          refine jr_iload X.c dX8_marbleAt_49 4 rfl ?_
          refine jr_goto X.c 55 dX8_marbleAt_51 (by decide) ?_
          refine jr_istore_n X.c (lv2 := [(3, .int x4_7), (0, .ref (w.1 159)), (1, .int x1), (2, .int x2), (4, .int x4_7)]) dX8_marbleAt_55 rfl (by decide) rfl ?_
          refine jr_iinc X.c (v := (x4_7 + (1 : Int32))) (lv2 := [(4, .int (x4_7 + (1 : Int32))), (3, .int x4_7), (0, .ref (w.1 159)), (1, .int x1), (2, .int x2)]) dX8_marbleAt_56 4 rfl (by rfl) (by decide) rfl ?_
          refine jr_goto X.c 7 dX8_marbleAt_59 (by decide) ?_
          cases h
          refine jr_sub [2, 3, 4, 1, 0] rfl ?_
          exact kl x4_7 (x4_7 + (1 : Int32)) rfl
def f_X8_marbleAt (x1 : Int32) (x2 : Int32) (V : cr_Hp) : Option (Int32) :=
  cr_bd (cr_it (fun (q : Int32 × Int32) => f_X8_marbleAt_l7 x1 x2 q.1 q.2 V) cr_FU ((-1006 : Int32), (0 : Int32))) (fun (u3_7_62 : Int32) => some u3_7_62)
set_option maxRecDepth 100000 in
set_option maxHeartbeats 4000000 in
theorem t_X8_marbleAt {p : Program} {l : Launch} {e : Env} {s : State} {m : MethodId} {args : Array Value} {below : List Frame} {meth : Method} {c : Code} {w : cr_Wd} (X : cr_Cx w RX8 (Cond.code yX8_marbleAt cX8_marbleAt 5 (some .int)) cX8_marbleAt 5 p s m args meth c) (x1 : Int32) (x2 : Int32) (V : cr_Hp)  (hr0 : meth.sig.returnType = (some .int)) (x : Int32) (h : f_X8_marbleAt x1 x2 V = some x) : cr_J w 5 p l e rm_X8_marbleAt s m args below meth c 0 0 (MQ below (cr_Qi w V x) args s 0 0 (cr_A w)) V 0 [(0, .ref (w.1 159)), (1, .int x1), (2, .int x2)] [] := by
  unfold f_X8_marbleAt at h
  refine jr_sipush X.c (v := (-1006 : Int32)) dX8_marbleAt_0 (by decide) ?_
  refine jr_istore_n X.c (lv2 := [(3, .int (-1006 : Int32)), (0, .ref (w.1 159)), (1, .int x1), (2, .int x2)]) dX8_marbleAt_3 rfl (by decide) rfl ?_
  refine jr_iconst X.c (v := (0 : Int32)) dX8_marbleAt_4 (by decide) ?_
  refine jr_istore X.c (lv2 := [(4, .int (0 : Int32)), (3, .int (-1006 : Int32)), (0, .ref (w.1 159)), (1, .int x1), (2, .int x2)]) dX8_marbleAt_5 (by decide) rfl ?_
  obtain ⟨e7, he7, h⟩ := cr_bd_s h
  have kx62 : ∀ (u3_7_62 : Int32), e7 = u3_7_62 → cr_J w 5 p l e rm_X8_marbleAt s m args below meth c 0 0 (MQ below (cr_Qi w V x) args s 0 0 (cr_A w)) V 62 [(3, .int u3_7_62)] [] := by
    intro u3_7_62 qx
    rw [qx] at h
    try simp only [cr_sm, cr_u2, cr_u3, cr_u4, cr_u5, cr_u6] at h
    refine jr_iload_n X.c dX8_marbleAt_62 rfl 0 rfl ?_
    cases h
    exact jr_iret X.c hr0 dX8_marbleAt_63
  refine jr_sub [2, 3, 4, 1, 0] rfl ?_
  refine cr_it_W (f := (fun (q : Int32 × Int32) => f_X8_marbleAt_l7 x1 x2 q.1 q.2 V)) (P := fun (q : Int32 × Int32) => cr_J w 5 p l e rm_X8_marbleAt s m args below meth c 0 0 (MQ below (cr_Qi w V x) args s 0 0 (cr_A w)) V 7 [(0, .ref (w.1 159)), (1, .int x1), (2, .int x2), (3, .int q.1), (4, .int q.2)] []) (K := fun z => z = e7) (fun q x hx kl kr => ?_) cr_FU ((-1006 : Int32), (0 : Int32)) e7 he7 rfl
  obtain ⟨x3_7, x4_7⟩ := q
  exact t_X8_marbleAt_l7 X x1 x2 x3_7 x4_7 V  x hx (fun x3_7 x4_7 ez => kl _ ez) (fun u3_7_62 ez => kx62 u3_7_62 ((kr _ ez).symm))
set_option maxRecDepth 100000 in
set_option maxHeartbeats 4000000 in
theorem m_X8_marbleAt (l : Launch) (w : cr_Wd) (V : cr_Hp) (x1 : Int32) (x2 : Int32)  (x : Int32) (h : f_X8_marbleAt x1 x2 V = some x) : Met l yX8_marbleAt (cr_wds yX8_marbleAt cX8_marbleAt 5 (some .int)) rm_X8_marbleAt (cr_Pc w V [.ref (w.1 159), .int x1, .int x2]) (cr_Qi w V x) 0 0 (cr_A w) := by
  refine cr_met (own := RX8) (lv := [(0, .ref (w.1 159)), (1, .int x1), (2, .int x2)]) (by decide +kernel) rfl (Nat.le_of_ble_eq_true rfl) rfl (fun p e s m args below meth c X hr0 => ?_)
  exact t_X8_marbleAt X x1 x2 V  hr0 x h
