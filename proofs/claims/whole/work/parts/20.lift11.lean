abbrev rm_X8_pointsIn : Room := { frames := 2, cells := 0, slots := 0, locals := 47 }
theorem hd_X8_pointsIn : yX8_pointsIn.cls = RX8 ∧ yX8_pointsIn.cls ≠ "java/lang/invoke/MethodHandle" ∧ yX8_pointsIn.cls ≠ "java/lang/invoke/VarHandle" ∧ (parseMethodDescriptor yX8_pointsIn.desc).map (fun d => d.parameters.length) = some 1 := by decide +kernel
def f_X8_pointsIn_l13 (x1 : Int32) (x3_4 : Int32) (x2_13 : Int32) (x4_13 : Int32) (V : cr_Hp) : Option ((Int32 × Int32) ⊕ Int32) :=
  if (30 : Int32) < x4_13 then (some (.inr x2_13)) else (cr_bd (f_X8_isIn x1 x3_4 x4_13 V) (fun (r26 : Int32) => if r26 = 0 then (some (.inl ((x2_13 + (0 : Int32)), (x4_13 + (1 : Int32))))) else (some (.inl ((x2_13 + (1 : Int32)), (x4_13 + (1 : Int32)))))))
set_option maxRecDepth 100000 in
set_option maxHeartbeats 4000000 in
theorem t_X8_pointsIn_l13 {p : Program} {l : Launch} {e : Env} {s : State} {m : MethodId} {args : Array Value} {below : List Frame} {meth : Method} {c : Code} {w : cr_Wd} {Q : State → Prop} (X : cr_Cx w RX8 (Cond.code yX8_pointsIn cX8_pointsIn 5 (some .int)) cX8_pointsIn 5 p s m args meth c) (x1 : Int32) (x3_4 : Int32) (x2_13 : Int32) (x4_13 : Int32) (V : cr_Hp)  (x : (Int32 × Int32) ⊕ Int32) (h : f_X8_pointsIn_l13 x1 x3_4 x2_13 x4_13 V = some x) (kl : ∀ (x2_13 : Int32) (x4_13 : Int32), x = .inl (x2_13, x4_13) → cr_J w 5 p l e rm_X8_pointsIn s m args below meth c 0 0 Q V 13 [(0, .ref (w.1 159)), (1, .int x1), (2, .int x2_13), (3, .int x3_4), (4, .int x4_13)] []) (kr45 : ∀ (u2_13_45 : Int32), x = .inr u2_13_45 → cr_J w 5 p l e rm_X8_pointsIn s m args below meth c 0 0 Q V 45 [(0, .ref (w.1 159)), (1, .int x1), (2, .int u2_13_45), (3, .int x3_4)] []) : cr_J w 5 p l e rm_X8_pointsIn s m args below meth c 0 0 Q V 13 [(0, .ref (w.1 159)), (1, .int x1), (2, .int x2_13), (3, .int x3_4), (4, .int x4_13)] [] := by
  unfold f_X8_pointsIn_l13 at h
  refine jr_iload X.c dX8_pointsIn_13 4 rfl ?_
  refine jr_bipush X.c (v := (30 : Int32)) dX8_pointsIn_15 (by decide) ?_
  refine jr_icmp_gt X.c 45 dX8_pointsIn_17 (by decide) (fun q17 => ?_) (fun q17 => ?_)
  · replace h := cr_if_t q17 h
    cases h
    refine jr_sub [0, 1, 2, 3] rfl ?_
    exact kr45 x2_13 rfl
  · replace h := cr_if_f q17 h
    refine jr_iload_n X.c dX8_pointsIn_20 rfl 2 rfl ?_
    refine jr_aload_n X.c dX8_pointsIn_21 rfl 0 rfl ?_
    refine jr_iload_n X.c dX8_pointsIn_22 rfl 1 rfl ?_
    refine jr_iload_n X.c dX8_pointsIn_23 rfl 3 rfl ?_
    refine jr_iload X.c dX8_pointsIn_24 4 rfl ?_
    obtain ⟨r26, hr26, h⟩ := cr_bd_s h
    refine jc_Vi X.c (As := [.int x1, .int x3_4, .int x4_13]) (V1 := V) (C := RX8) (T := TX8) (N := 22) (ci := 8) 3 (m_X8_isIn l w V x1 x3_4 x4_13  r26 hr26) ⟨rfl, rfl⟩ ml_X8_50 im_X8_isIn sl_X8_isIn in_X8 cd_X8_isIn hd_X8_isIn ⟨Nat.le_of_ble_eq_true rfl, Nat.le_of_ble_eq_true rfl⟩ ⟨Nat.le_of_ble_eq_true rfl, Nat.le_of_ble_eq_true rfl⟩ rfl (Nat.le_of_ble_eq_true rfl) (by decide) ((cr_row_159 w) _) rfl rfl dX8_pointsIn_26 ?_
    refine jr_if_eq X.c 36 dX8_pointsIn_29 (by decide) (fun q29 => ?_) (fun q29 => ?_)
    · replace h := cr_if_t q29 h
      refine jr_iconst X.c (v := (0 : Int32)) dX8_pointsIn_36 (by decide) ?_
      refine jr_iadd X.c dX8_pointsIn_37 ?_
      refine jr_istore_n X.c (lv2 := [(2, .int (x2_13 + (0 : Int32))), (0, .ref (w.1 159)), (1, .int x1), (3, .int x3_4), (4, .int x4_13)]) dX8_pointsIn_38 rfl (by decide) rfl ?_
      refine jr_iinc X.c (v := (x4_13 + (1 : Int32))) (lv2 := [(4, .int (x4_13 + (1 : Int32))), (2, .int (x2_13 + (0 : Int32))), (0, .ref (w.1 159)), (1, .int x1), (3, .int x3_4)]) dX8_pointsIn_39 4 rfl (by rfl) (by decide) rfl ?_
      refine jr_goto X.c 13 dX8_pointsIn_42 (by decide) ?_
      cases h
      refine jr_sub [2, 3, 1, 4, 0] rfl ?_
      exact kl (x2_13 + (0 : Int32)) (x4_13 + (1 : Int32)) rfl
    · replace h := cr_if_f q29 h
      refine jr_iconst X.c (v := (1 : Int32)) dX8_pointsIn_32 (by decide) ?_
      refine jr_goto X.c 37 dX8_pointsIn_33 (by decide) ?_
      refine jr_iadd X.c dX8_pointsIn_37 ?_
      refine jr_istore_n X.c (lv2 := [(2, .int (x2_13 + (1 : Int32))), (0, .ref (w.1 159)), (1, .int x1), (3, .int x3_4), (4, .int x4_13)]) dX8_pointsIn_38 rfl (by decide) rfl ?_
      refine jr_iinc X.c (v := (x4_13 + (1 : Int32))) (lv2 := [(4, .int (x4_13 + (1 : Int32))), (2, .int (x2_13 + (1 : Int32))), (0, .ref (w.1 159)), (1, .int x1), (3, .int x3_4)]) dX8_pointsIn_39 4 rfl (by rfl) (by decide) rfl ?_
      refine jr_goto X.c 13 dX8_pointsIn_42 (by decide) ?_
      cases h
      refine jr_sub [2, 3, 1, 4, 0] rfl ?_
      exact kl (x2_13 + (1 : Int32)) (x4_13 + (1 : Int32)) rfl
def f_X8_pointsIn_l4 (x1 : Int32) (x2_4 : Int32) (x3_4 : Int32) (V : cr_Hp) : Option ((Int32 × Int32) ⊕ Int32) :=
  if (30 : Int32) < x3_4 then (some (.inr x2_4)) else (cr_bd (cr_it (fun (q : Int32 × Int32) => f_X8_pointsIn_l13 x1 x3_4 q.1 q.2 V) cr_FU (x2_4, (0 : Int32))) (fun (u2_13_45 : Int32) => some (.inl (u2_13_45, (x3_4 + (1 : Int32))))))
set_option maxRecDepth 100000 in
set_option maxHeartbeats 4000000 in
theorem t_X8_pointsIn_l4 {p : Program} {l : Launch} {e : Env} {s : State} {m : MethodId} {args : Array Value} {below : List Frame} {meth : Method} {c : Code} {w : cr_Wd} {Q : State → Prop} (X : cr_Cx w RX8 (Cond.code yX8_pointsIn cX8_pointsIn 5 (some .int)) cX8_pointsIn 5 p s m args meth c) (x1 : Int32) (x2_4 : Int32) (x3_4 : Int32) (V : cr_Hp)  (x : (Int32 × Int32) ⊕ Int32) (h : f_X8_pointsIn_l4 x1 x2_4 x3_4 V = some x) (kl : ∀ (x2_4 : Int32) (x3_4 : Int32), x = .inl (x2_4, x3_4) → cr_J w 5 p l e rm_X8_pointsIn s m args below meth c 0 0 Q V 4 [(0, .ref (w.1 159)), (1, .int x1), (2, .int x2_4), (3, .int x3_4)] []) (kr51 : ∀ (u2_4_51 : Int32), x = .inr u2_4_51 → cr_J w 5 p l e rm_X8_pointsIn s m args below meth c 0 0 Q V 51 [(2, .int u2_4_51)] []) : cr_J w 5 p l e rm_X8_pointsIn s m args below meth c 0 0 Q V 4 [(0, .ref (w.1 159)), (1, .int x1), (2, .int x2_4), (3, .int x3_4)] [] := by
  unfold f_X8_pointsIn_l4 at h
  refine jr_iload_n X.c dX8_pointsIn_4 rfl 3 rfl ?_
  refine jr_bipush X.c (v := (30 : Int32)) dX8_pointsIn_5 (by decide) ?_
  refine jr_icmp_gt X.c 51 dX8_pointsIn_7 (by decide) (fun q7 => ?_) (fun q7 => ?_)
  · replace h := cr_if_t q7 h
    cases h
    refine jr_sub [2] rfl ?_
    exact kr51 x2_4 rfl
  · replace h := cr_if_f q7 h
    refine jr_iconst X.c (v := (0 : Int32)) dX8_pointsIn_10 (by decide) ?_
    refine jr_istore X.c (lv2 := [(4, .int (0 : Int32)), (0, .ref (w.1 159)), (1, .int x1), (2, .int x2_4), (3, .int x3_4)]) dX8_pointsIn_11 (by decide) rfl ?_
    obtain ⟨e13, he13, h⟩ := cr_bd_s h
    have kx45 : ∀ (u2_13_45 : Int32), e13 = u2_13_45 → cr_J w 5 p l e rm_X8_pointsIn s m args below meth c 0 0 Q V 45 [(0, .ref (w.1 159)), (1, .int x1), (2, .int u2_13_45), (3, .int x3_4)] [] := by
      intro u2_13_45 qx
      rw [qx] at h
      try simp only [cr_sm, cr_u2, cr_u3, cr_u4, cr_u5, cr_u6] at h
      refine jr_iinc X.c (v := (x3_4 + (1 : Int32))) (lv2 := [(3, .int (x3_4 + (1 : Int32))), (0, .ref (w.1 159)), (1, .int x1), (2, .int u2_13_45)]) dX8_pointsIn_45 3 rfl (by rfl) (by decide) rfl ?_
      refine jr_goto X.c 4 dX8_pointsIn_48 (by decide) ?_
      cases h
      refine jr_sub [1, 2, 3, 0] rfl ?_
      exact kl u2_13_45 (x3_4 + (1 : Int32)) rfl
    refine jr_sub [1, 2, 3, 4, 0] rfl ?_
    refine cr_it_W (f := (fun (q : Int32 × Int32) => f_X8_pointsIn_l13 x1 x3_4 q.1 q.2 V)) (P := fun (q : Int32 × Int32) => cr_J w 5 p l e rm_X8_pointsIn s m args below meth c 0 0 Q V 13 [(0, .ref (w.1 159)), (1, .int x1), (2, .int q.1), (3, .int x3_4), (4, .int q.2)] []) (K := fun z => z = e13) (fun q x hx kl kr => ?_) cr_FU (x2_4, (0 : Int32)) e13 he13 rfl
    obtain ⟨x2_13, x4_13⟩ := q
    exact t_X8_pointsIn_l13 X x1 x3_4 x2_13 x4_13 V  x hx (fun x2_13 x4_13 ez => kl _ ez) (fun u2_13_45 ez => kx45 u2_13_45 ((kr _ ez).symm))
def f_X8_pointsIn (x1 : Int32) (V : cr_Hp) : Option (Int32) :=
  cr_bd (cr_it (fun (q : Int32 × Int32) => f_X8_pointsIn_l4 x1 q.1 q.2 V) cr_FU ((0 : Int32), (0 : Int32))) (fun (u2_4_51 : Int32) => some u2_4_51)
set_option maxRecDepth 100000 in
set_option maxHeartbeats 4000000 in
theorem t_X8_pointsIn {p : Program} {l : Launch} {e : Env} {s : State} {m : MethodId} {args : Array Value} {below : List Frame} {meth : Method} {c : Code} {w : cr_Wd} (X : cr_Cx w RX8 (Cond.code yX8_pointsIn cX8_pointsIn 5 (some .int)) cX8_pointsIn 5 p s m args meth c) (x1 : Int32) (V : cr_Hp)  (hr0 : meth.sig.returnType = (some .int)) (x : Int32) (h : f_X8_pointsIn x1 V = some x) : cr_J w 5 p l e rm_X8_pointsIn s m args below meth c 0 0 (MQ below (cr_Qi w V x) args s 0 0 (cr_A w)) V 0 [(0, .ref (w.1 159)), (1, .int x1)] [] := by
  unfold f_X8_pointsIn at h
  refine jr_iconst X.c (v := (0 : Int32)) dX8_pointsIn_0 (by decide) ?_
  refine jr_istore_n X.c (lv2 := [(2, .int (0 : Int32)), (0, .ref (w.1 159)), (1, .int x1)]) dX8_pointsIn_1 rfl (by decide) rfl ?_
  refine jr_iconst X.c (v := (0 : Int32)) dX8_pointsIn_2 (by decide) ?_
  refine jr_istore_n X.c (lv2 := [(3, .int (0 : Int32)), (2, .int (0 : Int32)), (0, .ref (w.1 159)), (1, .int x1)]) dX8_pointsIn_3 rfl (by decide) rfl ?_
  obtain ⟨e4, he4, h⟩ := cr_bd_s h
  have kx51 : ∀ (u2_4_51 : Int32), e4 = u2_4_51 → cr_J w 5 p l e rm_X8_pointsIn s m args below meth c 0 0 (MQ below (cr_Qi w V x) args s 0 0 (cr_A w)) V 51 [(2, .int u2_4_51)] [] := by
    intro u2_4_51 qx
    rw [qx] at h
    try simp only [cr_sm, cr_u2, cr_u3, cr_u4, cr_u5, cr_u6] at h
    refine jr_iload_n X.c dX8_pointsIn_51 rfl 0 rfl ?_
    cases h
    exact jr_iret X.c hr0 dX8_pointsIn_52
  refine jr_sub [2, 3, 1, 0] rfl ?_
  refine cr_it_W (f := (fun (q : Int32 × Int32) => f_X8_pointsIn_l4 x1 q.1 q.2 V)) (P := fun (q : Int32 × Int32) => cr_J w 5 p l e rm_X8_pointsIn s m args below meth c 0 0 (MQ below (cr_Qi w V x) args s 0 0 (cr_A w)) V 4 [(0, .ref (w.1 159)), (1, .int x1), (2, .int q.1), (3, .int q.2)] []) (K := fun z => z = e4) (fun q x hx kl kr => ?_) cr_FU ((0 : Int32), (0 : Int32)) e4 he4 rfl
  obtain ⟨x2_4, x3_4⟩ := q
  exact t_X8_pointsIn_l4 X x1 x2_4 x3_4 V  x hx (fun x2_4 x3_4 ez => kl _ ez) (fun u2_4_51 ez => kx51 u2_4_51 ((kr _ ez).symm))
set_option maxRecDepth 100000 in
set_option maxHeartbeats 4000000 in
theorem m_X8_pointsIn (l : Launch) (w : cr_Wd) (V : cr_Hp) (x1 : Int32)  (x : Int32) (h : f_X8_pointsIn x1 V = some x) : Met l yX8_pointsIn (cr_wds yX8_pointsIn cX8_pointsIn 5 (some .int)) rm_X8_pointsIn (cr_Pc w V [.ref (w.1 159), .int x1]) (cr_Qi w V x) 0 0 (cr_A w) := by
  refine cr_met (own := RX8) (lv := [(0, .ref (w.1 159)), (1, .int x1)]) (by decide +kernel) rfl (Nat.le_of_ble_eq_true rfl) rfl (fun p e s m args below meth c X hr0 => ?_)
  exact t_X8_pointsIn X x1 V  hr0 x h
abbrev rm_X8_ofRing : Room := { frames := 3, cells := 0, slots := 0, locals := 71 }
theorem hd_X8_ofRing : yX8_ofRing.cls = RX8 ∧ yX8_ofRing.cls ≠ "java/lang/invoke/MethodHandle" ∧ yX8_ofRing.cls ≠ "java/lang/invoke/VarHandle" ∧ (parseMethodDescriptor yX8_ofRing.desc).map (fun d => d.parameters.length) = some 2 := by decide +kernel
def f_X8_ofRing (x1 : Int32) (x2 : Int32) (V : cr_Hp) : Option (Int32) :=
  if (3 : Int32) ≤ x2 then (if x2 = (3 : Int32) then (cr_bd (f_X8_marblesIn x1 V) (fun (r21 : Int32) => some r21)) else (cr_bd (f_X8_pointsIn x1 V) (fun (r29 : Int32) => some r29))) else (cr_bd (f_X8_ringPart x1 x2 V) (fun (r8 : Int32) => some r8))
set_option maxRecDepth 100000 in
set_option maxHeartbeats 4000000 in
theorem t_X8_ofRing {p : Program} {l : Launch} {e : Env} {s : State} {m : MethodId} {args : Array Value} {below : List Frame} {meth : Method} {c : Code} {w : cr_Wd} (X : cr_Cx w RX8 (Cond.code yX8_ofRing cX8_ofRing 3 (some .int)) cX8_ofRing 3 p s m args meth c) (x1 : Int32) (x2 : Int32) (V : cr_Hp)  (hr0 : meth.sig.returnType = (some .int)) (x : Int32) (h : f_X8_ofRing x1 x2 V = some x) : cr_J w 3 p l e rm_X8_ofRing s m args below meth c 0 0 (MQ below (cr_Qi w V x) args s 0 0 (cr_A w)) V 0 [(0, .ref (w.1 159)), (1, .int x1), (2, .int x2)] [] := by
  unfold f_X8_ofRing at h
  refine jr_iload_n X.c dX8_ofRing_0 rfl 2 rfl ?_
  refine jr_iconst X.c (v := (3 : Int32)) dX8_ofRing_1 (by decide) ?_
  refine jr_icmp_ge X.c 14 dX8_ofRing_2 (by decide) (fun q2 => ?_) (fun q2 => ?_)
  · replace h := cr_if_t q2 h
    refine jr_iload_n X.c dX8_ofRing_14 rfl 2 rfl ?_
    refine jr_iconst X.c (v := (3 : Int32)) dX8_ofRing_15 (by decide) ?_
    refine jr_icmp_ne X.c 27 dX8_ofRing_16 (by decide) (fun q16 => ?_) (fun q16 => ?_)
    · replace h := cr_if_f q16 h
      refine jr_aload_n X.c dX8_ofRing_27 rfl 0 rfl ?_
      refine jr_iload_n X.c dX8_ofRing_28 rfl 1 rfl ?_
      obtain ⟨r29, hr29, h⟩ := cr_bd_s h
      refine jc_Vi X.c (As := [.int x1]) (V1 := V) (C := RX8) (T := TX8) (N := 22) (ci := 8) 1 (m_X8_pointsIn l w V x1  r29 hr29) ⟨rfl, rfl⟩ ml_X8_135 im_X8_pointsIn sl_X8_pointsIn in_X8 cd_X8_pointsIn hd_X8_pointsIn ⟨Nat.le_of_ble_eq_true rfl, Nat.le_of_ble_eq_true rfl⟩ ⟨Nat.le_of_ble_eq_true rfl, Nat.le_of_ble_eq_true rfl⟩ rfl (Nat.le_of_ble_eq_true rfl) (by decide) ((cr_row_159 w) _) rfl rfl dX8_ofRing_29 ?_
      cases h
      exact jr_iret X.c hr0 dX8_ofRing_32
    · replace h := cr_if_t q16 h
      refine jr_aload_n X.c dX8_ofRing_19 rfl 0 rfl ?_
      refine jr_iload_n X.c dX8_ofRing_20 rfl 1 rfl ?_
      obtain ⟨r21, hr21, h⟩ := cr_bd_s h
      refine jc_Vi X.c (As := [.int x1]) (V1 := V) (C := RX8) (T := TX8) (N := 22) (ci := 8) 1 (m_X8_marblesIn l w V x1  r21 hr21) ⟨rfl, rfl⟩ ml_X8_132 im_X8_marblesIn sl_X8_marblesIn in_X8 cd_X8_marblesIn hd_X8_marblesIn ⟨Nat.le_of_ble_eq_true rfl, Nat.le_of_ble_eq_true rfl⟩ ⟨Nat.le_of_ble_eq_true rfl, Nat.le_of_ble_eq_true rfl⟩ rfl (Nat.le_of_ble_eq_true rfl) (by decide) ((cr_row_159 w) _) rfl rfl dX8_ofRing_21 ?_
      refine jr_goto X.c 32 dX8_ofRing_24 (by decide) ?_
      cases h
      exact jr_iret X.c hr0 dX8_ofRing_32
  · replace h := cr_if_f q2 h
    refine jr_aload_n X.c dX8_ofRing_5 rfl 0 rfl ?_
    refine jr_iload_n X.c dX8_ofRing_6 rfl 1 rfl ?_
    refine jr_iload_n X.c dX8_ofRing_7 rfl 2 rfl ?_
    obtain ⟨r8, hr8, h⟩ := cr_bd_s h
    refine jc_Vi X.c (As := [.int x1, .int x2]) (V1 := V) (C := RX8) (T := TX8) (N := 22) (ci := 8) 2 (m_X8_ringPart l w V x1 x2  r8 hr8) ⟨rfl, rfl⟩ ml_X8_47 im_X8_ringPart sl_X8_ringPart in_X8 cd_X8_ringPart hd_X8_ringPart ⟨Nat.le_of_ble_eq_true rfl, Nat.le_of_ble_eq_true rfl⟩ ⟨Nat.le_of_ble_eq_true rfl, Nat.le_of_ble_eq_true rfl⟩ rfl (Nat.le_of_ble_eq_true rfl) (by decide) ((cr_row_159 w) _) rfl rfl dX8_ofRing_8 ?_
    refine jr_goto X.c 32 dX8_ofRing_11 (by decide) ?_
    cases h
    exact jr_iret X.c hr0 dX8_ofRing_32
set_option maxRecDepth 100000 in
set_option maxHeartbeats 4000000 in
theorem m_X8_ofRing (l : Launch) (w : cr_Wd) (V : cr_Hp) (x1 : Int32) (x2 : Int32)  (x : Int32) (h : f_X8_ofRing x1 x2 V = some x) : Met l yX8_ofRing (cr_wds yX8_ofRing cX8_ofRing 3 (some .int)) rm_X8_ofRing (cr_Pc w V [.ref (w.1 159), .int x1, .int x2]) (cr_Qi w V x) 0 0 (cr_A w) := by
  refine cr_met (own := RX8) (lv := [(0, .ref (w.1 159)), (1, .int x1), (2, .int x2)]) (by decide +kernel) rfl (Nat.le_of_ble_eq_true rfl) rfl (fun p e s m args below meth c X hr0 => ?_)
  exact t_X8_ofRing X x1 x2 V  hr0 x h
abbrev rm_X8_ring : Room := { frames := 4, cells := 0, slots := 0, locals := 93 }
theorem hd_X8_ring : yX8_ring.cls = RX8 ∧ yX8_ring.cls ≠ "java/lang/invoke/MethodHandle" ∧ yX8_ring.cls ≠ "java/lang/invoke/VarHandle" ∧ (parseMethodDescriptor yX8_ring.desc).map (fun d => d.parameters.length) = some 2 := by decide +kernel
def f_X8_ring (x1 : Int32) (x2 : Int32) (V : cr_Hp) : Option (Int32) :=
  cr_gd (cr_ix (1 : Int32) 80) (cr_bd (f_X8_within x1 (0 : Int32) ((V 160 (1 : Int32).toNatClampNeg) - (1 : Int32))) (fun (r10 : Int32) => if r10 = 0 then (some (-1001 : Int32)) else (cr_bd (f_X8_within x2 (0 : Int32) (4 : Int32)) (fun (r23 : Int32) => if r23 = 0 then (some (-1002 : Int32)) else (cr_bd (f_X8_ofRing x1 x2 V) (fun (r32 : Int32) => some r32))))))
set_option maxRecDepth 100000 in
set_option maxHeartbeats 4000000 in
theorem t_X8_ring {p : Program} {l : Launch} {e : Env} {s : State} {m : MethodId} {args : Array Value} {below : List Frame} {meth : Method} {c : Code} {w : cr_Wd} (X : cr_Cx w RX8 (Cond.code yX8_ring cX8_ring 3 (some .int)) cX8_ring 3 p s m args meth c) (x1 : Int32) (x2 : Int32) (V : cr_Hp)  (hr0 : meth.sig.returnType = (some .int)) (x : Int32) (h : f_X8_ring x1 x2 V = some x) : cr_J w 3 p l e rm_X8_ring s m args below meth c 0 0 (MQ below (cr_Qi w V x) args s 0 0 (cr_A w)) V 0 [(0, .ref (w.1 159)), (1, .int x1), (2, .int x2)] [] := by
  unfold f_X8_ring at h
  refine jr_iload_n X.c dX8_ring_0 rfl 1 rfl ?_
  refine jr_iconst X.c (v := (0 : Int32)) dX8_ring_1 (by decide) ?_
  refine jr_aload_n X.c dX8_ring_2 rfl 0 rfl ?_
  refine jr_get X.c (ci := 8) (C := RX8) (T := TX8) (N := 22) (k := 0) rfl cr_in8 (by decide) ((cr_row_159 w) _) rfl (by decide) fl_X8_7 dX8_ring_3 ?_
  refine jr_iconst X.c (v := (1 : Int32)) dX8_ring_6 (by decide) ?_
  obtain ⟨hi7, h⟩ := cr_gd_s h
  refine jr_iald X.c (by decide) ((cr_row_160 w) _) hi7 dX8_ring_7 ?_
  refine jr_iconst X.c (v := (1 : Int32)) dX8_ring_8 (by decide) ?_
  refine jr_isub X.c dX8_ring_9 ?_
  obtain ⟨r10, hr10, h⟩ := cr_bd_s h
  refine jc_Si X.c (As := [.int x1, .int (0 : Int32), .int ((V 160 (1 : Int32).toNatClampNeg) - (1 : Int32))]) (V1 := V) 3 (m_X8_within l w V x1 (0 : Int32) ((V 160 (1 : Int32).toNatClampNeg) - (1 : Int32))  r10 hr10) ⟨rfl, rfl⟩ ml_X8_39 st_X8_within in_X8 cd_X8_within hd_X8_within ⟨Nat.le_of_ble_eq_true rfl, Nat.le_of_ble_eq_true rfl⟩ ⟨Nat.le_of_ble_eq_true rfl, Nat.le_of_ble_eq_true rfl⟩ rfl (Nat.le_of_ble_eq_true rfl) rfl dX8_ring_10 ?_
  refine jr_if_ne X.c 20 dX8_ring_13 (by decide) (fun q13 => ?_) (fun q13 => ?_)
  · replace h := cr_if_f q13 h
    refine jr_iload_n X.c dX8_ring_20 rfl 2 rfl ?_
    refine jr_iconst X.c (v := (0 : Int32)) dX8_ring_21 (by decide) ?_
    refine jr_iconst X.c (v := (4 : Int32)) dX8_ring_22 (by decide) ?_
    obtain ⟨r23, hr23, h⟩ := cr_bd_s h
    refine jc_Si X.c (As := [.int x2, .int (0 : Int32), .int (4 : Int32)]) (V1 := V) 3 (m_X8_within l w V x2 (0 : Int32) (4 : Int32)  r23 hr23) ⟨rfl, rfl⟩ ml_X8_39 st_X8_within in_X8 cd_X8_within hd_X8_within ⟨Nat.le_of_ble_eq_true rfl, Nat.le_of_ble_eq_true rfl⟩ ⟨Nat.le_of_ble_eq_true rfl, Nat.le_of_ble_eq_true rfl⟩ rfl (Nat.le_of_ble_eq_true rfl) rfl dX8_ring_23 ?_
    refine jr_if_eq X.c 38 dX8_ring_26 (by decide) (fun q26 => ?_) (fun q26 => ?_)
    · replace h := cr_if_t q26 h
      refine jr_sipush X.c (v := (-1002 : Int32)) dX8_ring_38 (by decide) ?_
      cases h
      exact jr_iret X.c hr0 dX8_ring_41
    · replace h := cr_if_f q26 h
      refine jr_aload_n X.c dX8_ring_29 rfl 0 rfl ?_
      refine jr_iload_n X.c dX8_ring_30 rfl 1 rfl ?_
      refine jr_iload_n X.c dX8_ring_31 rfl 2 rfl ?_
      obtain ⟨r32, hr32, h⟩ := cr_bd_s h
      refine jc_Vi X.c (As := [.int x1, .int x2]) (V1 := V) (C := RX8) (T := TX8) (N := 22) (ci := 8) 2 (m_X8_ofRing l w V x1 x2  r32 hr32) ⟨rfl, rfl⟩ ml_X8_138 im_X8_ofRing sl_X8_ofRing in_X8 cd_X8_ofRing hd_X8_ofRing ⟨Nat.le_of_ble_eq_true rfl, Nat.le_of_ble_eq_true rfl⟩ ⟨Nat.le_of_ble_eq_true rfl, Nat.le_of_ble_eq_true rfl⟩ rfl (Nat.le_of_ble_eq_true rfl) (by decide) ((cr_row_159 w) _) rfl rfl dX8_ring_32 ?_
      refine jr_goto X.c 41 dX8_ring_35 (by decide) ?_
      cases h
      exact jr_iret X.c hr0 dX8_ring_41
  · replace h := cr_if_t q13 h
    refine jr_sipush X.c (v := (-1001 : Int32)) dX8_ring_16 (by decide) ?_
    cases h
    exact jr_iret X.c hr0 dX8_ring_19
set_option maxRecDepth 100000 in
set_option maxHeartbeats 4000000 in
theorem m_X8_ring (l : Launch) (w : cr_Wd) (V : cr_Hp) (x1 : Int32) (x2 : Int32)  (x : Int32) (h : f_X8_ring x1 x2 V = some x) : Met l yX8_ring (cr_wds yX8_ring cX8_ring 3 (some .int)) rm_X8_ring (cr_Pc w V [.ref (w.1 159), .int x1, .int x2]) (cr_Qi w V x) 0 0 (cr_A w) := by
  refine cr_met (own := RX8) (lv := [(0, .ref (w.1 159)), (1, .int x1), (2, .int x2)]) (by decide +kernel) rfl (Nat.le_of_ble_eq_true rfl) rfl (fun p e s m args below meth c X hr0 => ?_)
  exact t_X8_ring X x1 x2 V  hr0 x h
abbrev rm_X8_at : Room := { frames := 3, cells := 0, slots := 0, locals := 67 }
theorem hd_X8_at : yX8_at.cls = RX8 ∧ yX8_at.cls ≠ "java/lang/invoke/MethodHandle" ∧ yX8_at.cls ≠ "java/lang/invoke/VarHandle" ∧ (parseMethodDescriptor yX8_at.desc).map (fun d => d.parameters.length) = some 2 := by decide +kernel
def f_X8_at (x1 : Int32) (x2 : Int32) (V : cr_Hp) : Option (Int32) :=
  cr_bd (f_X8_isPoint x1 x2) (fun (r2 : Int32) => if r2 = 0 then (some (-1001 : Int32)) else (cr_bd (f_X8_marbleAt x1 x2 V) (fun (r11 : Int32) => some r11)))
set_option maxRecDepth 100000 in
set_option maxHeartbeats 4000000 in
theorem t_X8_at {p : Program} {l : Launch} {e : Env} {s : State} {m : MethodId} {args : Array Value} {below : List Frame} {meth : Method} {c : Code} {w : cr_Wd} (X : cr_Cx w RX8 (Cond.code yX8_at cX8_at 3 (some .int)) cX8_at 3 p s m args meth c) (x1 : Int32) (x2 : Int32) (V : cr_Hp)  (hr0 : meth.sig.returnType = (some .int)) (x : Int32) (h : f_X8_at x1 x2 V = some x) : cr_J w 3 p l e rm_X8_at s m args below meth c 0 0 (MQ below (cr_Qi w V x) args s 0 0 (cr_A w)) V 0 [(0, .ref (w.1 159)), (1, .int x1), (2, .int x2)] [] := by
  unfold f_X8_at at h
  refine jr_iload_n X.c dX8_at_0 rfl 1 rfl ?_
  refine jr_iload_n X.c dX8_at_1 rfl 2 rfl ?_
  obtain ⟨r2, hr2, h⟩ := cr_bd_s h
  refine jc_Si X.c (As := [.int x1, .int x2]) (V1 := V) 2 (m_X8_isPoint l w V x1 x2  r2 hr2) ⟨rfl, rfl⟩ ml_X8_112 st_X8_isPoint in_X8 cd_X8_isPoint hd_X8_isPoint ⟨Nat.le_of_ble_eq_true rfl, Nat.le_of_ble_eq_true rfl⟩ ⟨Nat.le_of_ble_eq_true rfl, Nat.le_of_ble_eq_true rfl⟩ rfl (Nat.le_of_ble_eq_true rfl) rfl dX8_at_2 ?_
  refine jr_if_eq X.c 17 dX8_at_5 (by decide) (fun q5 => ?_) (fun q5 => ?_)
  · replace h := cr_if_t q5 h
    refine jr_sipush X.c (v := (-1001 : Int32)) dX8_at_17 (by decide) ?_
    cases h
    exact jr_iret X.c hr0 dX8_at_20
  · replace h := cr_if_f q5 h
    refine jr_aload_n X.c dX8_at_8 rfl 0 rfl ?_
    refine jr_iload_n X.c dX8_at_9 rfl 1 rfl ?_
    refine jr_iload_n X.c dX8_at_10 rfl 2 rfl ?_
    obtain ⟨r11, hr11, h⟩ := cr_bd_s h
    refine jc_Vi X.c (As := [.int x1, .int x2]) (V1 := V) (C := RX8) (T := TX8) (N := 22) (ci := 8) 2 (m_X8_marbleAt l w V x1 x2  r11 hr11) ⟨rfl, rfl⟩ ml_X8_63 im_X8_marbleAt sl_X8_marbleAt in_X8 cd_X8_marbleAt hd_X8_marbleAt ⟨Nat.le_of_ble_eq_true rfl, Nat.le_of_ble_eq_true rfl⟩ ⟨Nat.le_of_ble_eq_true rfl, Nat.le_of_ble_eq_true rfl⟩ rfl (Nat.le_of_ble_eq_true rfl) (by decide) ((cr_row_159 w) _) rfl rfl dX8_at_11 ?_
    refine jr_goto X.c 20 dX8_at_14 (by decide) ?_
    cases h
    exact jr_iret X.c hr0 dX8_at_20
set_option maxRecDepth 100000 in
set_option maxHeartbeats 4000000 in
theorem m_X8_at (l : Launch) (w : cr_Wd) (V : cr_Hp) (x1 : Int32) (x2 : Int32)  (x : Int32) (h : f_X8_at x1 x2 V = some x) : Met l yX8_at (cr_wds yX8_at cX8_at 3 (some .int)) rm_X8_at (cr_Pc w V [.ref (w.1 159), .int x1, .int x2]) (cr_Qi w V x) 0 0 (cr_A w) := by
  refine cr_met (own := RX8) (lv := [(0, .ref (w.1 159)), (1, .int x1), (2, .int x2)]) (by decide +kernel) rfl (Nat.le_of_ble_eq_true rfl) rfl (fun p e s m args below meth c X hr0 => ?_)
  exact t_X8_at X x1 x2 V  hr0 x h
abbrev rm_X8_scoreOf : Room := { frames := 2, cells := 0, slots := 0, locals := 43 }
theorem hd_X8_scoreOf : yX8_scoreOf.cls = RX8 ∧ yX8_scoreOf.cls ≠ "java/lang/invoke/MethodHandle" ∧ yX8_scoreOf.cls ≠ "java/lang/invoke/VarHandle" ∧ (parseMethodDescriptor yX8_scoreOf.desc).map (fun d => d.parameters.length) = some 1 := by decide +kernel
def f_X8_scoreOf_l4 (x1 : Int32) (x2_4 : Int32) (x3_4 : Int32) (V : cr_Hp) : Option ((Int32 × Int32) ⊕ Int32) :=
  cr_gd (cr_ix (0 : Int32) 80) (if (V 160 (0 : Int32).toNatClampNeg) ≤ x3_4 then (some (.inr x2_4)) else (cr_bd (f_X8_isThere x3_4 V) (fun (r16 : Int32) => if r16 = 0 then (cr_bd (f_X8_part x3_4 (4 : Int32) V) (fun (r26 : Int32) => if r26 = x1 then (cr_bd (f_X8_part x3_4 (2 : Int32) V) (fun (r36 : Int32) => some (.inl ((x2_4 + r36), (x3_4 + (1 : Int32)))))) else (cr_bd (f_X8_part x3_4 (3 : Int32) V) (fun (r45 : Int32) => if r45 = x1 then (cr_bd (f_X8_part x3_4 (2 : Int32) V) (fun (r55 : Int32) => some (.inl ((x2_4 + (-r55)), (x3_4 + (1 : Int32)))))) else (some (.inl ((x2_4 + (0 : Int32)), (x3_4 + (1 : Int32))))))))) else (some (.inl (x2_4, (x3_4 + (1 : Int32))))))))
set_option maxRecDepth 100000 in
set_option maxHeartbeats 4000000 in
theorem t_X8_scoreOf_l4 {p : Program} {l : Launch} {e : Env} {s : State} {m : MethodId} {args : Array Value} {below : List Frame} {meth : Method} {c : Code} {w : cr_Wd} {Q : State → Prop} (X : cr_Cx w RX8 (Cond.code yX8_scoreOf cX8_scoreOf 4 (some .int)) cX8_scoreOf 4 p s m args meth c) (x1 : Int32) (x2_4 : Int32) (x3_4 : Int32) (V : cr_Hp)  (x : (Int32 × Int32) ⊕ Int32) (h : f_X8_scoreOf_l4 x1 x2_4 x3_4 V = some x) (kl : ∀ (x2_4 : Int32) (x3_4 : Int32), x = .inl (x2_4, x3_4) → cr_J w 4 p l e rm_X8_scoreOf s m args below meth c 0 0 Q V 4 [(0, .ref (w.1 159)), (1, .int x1), (2, .int x2_4), (3, .int x3_4)] []) (kr71 : ∀ (u2_4_71 : Int32), x = .inr u2_4_71 → cr_J w 4 p l e rm_X8_scoreOf s m args below meth c 0 0 Q V 71 [(2, .int u2_4_71)] []) : cr_J w 4 p l e rm_X8_scoreOf s m args below meth c 0 0 Q V 4 [(0, .ref (w.1 159)), (1, .int x1), (2, .int x2_4), (3, .int x3_4)] [] := by
  unfold f_X8_scoreOf_l4 at h
  refine jr_iload_n X.c dX8_scoreOf_4 rfl 3 rfl ?_
  refine jr_aload_n X.c dX8_scoreOf_5 rfl 0 rfl ?_
  refine jr_get X.c (ci := 8) (C := RX8) (T := TX8) (N := 22) (k := 0) rfl cr_in8 (by decide) ((cr_row_159 w) _) rfl (by decide) fl_X8_7 dX8_scoreOf_6 ?_
  refine jr_iconst X.c (v := (0 : Int32)) dX8_scoreOf_9 (by decide) ?_
  obtain ⟨hi10, h⟩ := cr_gd_s h
  refine jr_iald X.c (by decide) ((cr_row_160 w) _) hi10 dX8_scoreOf_10 ?_
  refine jr_icmp_ge X.c 71 dX8_scoreOf_11 (by decide) (fun q11 => ?_) (fun q11 => ?_)
  · replace h := cr_if_t q11 h
    cases h
    refine jr_sub [2] rfl ?_
    exact kr71 x2_4 rfl
  · replace h := cr_if_f q11 h
    refine jr_aload_n X.c dX8_scoreOf_14 rfl 0 rfl ?_
    refine jr_iload_n X.c dX8_scoreOf_15 rfl 3 rfl ?_
    obtain ⟨r16, hr16, h⟩ := cr_bd_s h
    refine jc_Vi X.c (As := [.int x3_4]) (V1 := V) (C := RX8) (T := TX8) (N := 22) (ci := 8) 1 (m_X8_isThere l w V x3_4  r16 hr16) ⟨rfl, rfl⟩ ml_X8_56 im_X8_isThere sl_X8_isThere in_X8 cd_X8_isThere hd_X8_isThere ⟨Nat.le_of_ble_eq_true rfl, Nat.le_of_ble_eq_true rfl⟩ ⟨Nat.le_of_ble_eq_true rfl, Nat.le_of_ble_eq_true rfl⟩ rfl (Nat.le_of_ble_eq_true rfl) (by decide) ((cr_row_159 w) _) rfl rfl dX8_scoreOf_16 ?_
    refine jr_if_ne X.c 65 dX8_scoreOf_19 (by decide) (fun q19 => ?_) (fun q19 => ?_)
    · replace h := cr_if_f q19 h
      refine jr_iinc X.c (v := (x3_4 + (1 : Int32))) (lv2 := [(3, .int (x3_4 + (1 : Int32))), (0, .ref (w.1 159)), (1, .int x1), (2, .int x2_4)]) dX8_scoreOf_65 3 rfl (by rfl) (by decide) rfl ?_
      refine jr_goto X.c 4 dX8_scoreOf_68 (by decide) ?_
      cases h
      refine jr_sub [1, 2, 3, 0] rfl ?_
      exact kl x2_4 (x3_4 + (1 : Int32)) rfl
    · replace h := cr_if_t q19 h
      refine jr_iload_n X.c dX8_scoreOf_22 rfl 2 rfl ?_
      refine jr_aload_n X.c dX8_scoreOf_23 rfl 0 rfl ?_
      refine jr_iload_n X.c dX8_scoreOf_24 rfl 3 rfl ?_
      refine jr_iconst X.c (v := (4 : Int32)) dX8_scoreOf_25 (by decide) ?_
      obtain ⟨r26, hr26, h⟩ := cr_bd_s h
      refine jc_Vi X.c (As := [.int x3_4, .int (4 : Int32)]) (V1 := V) (C := RX8) (T := TX8) (N := 22) (ci := 8) 2 (m_X8_part l w V x3_4 (4 : Int32)  r26 hr26) ⟨rfl, rfl⟩ ml_X8_43 im_X8_part sl_X8_part in_X8 cd_X8_part hd_X8_part ⟨Nat.le_of_ble_eq_true rfl, Nat.le_of_ble_eq_true rfl⟩ ⟨Nat.le_of_ble_eq_true rfl, Nat.le_of_ble_eq_true rfl⟩ rfl (Nat.le_of_ble_eq_true rfl) (by decide) ((cr_row_159 w) _) rfl rfl dX8_scoreOf_26 ?_
      refine jr_iload_n X.c dX8_scoreOf_29 rfl 1 rfl ?_
      refine jr_icmp_ne X.c 42 dX8_scoreOf_30 (by decide) (fun q30 => ?_) (fun q30 => ?_)
      · replace h := cr_if_f q30 h
        refine jr_aload_n X.c dX8_scoreOf_42 rfl 0 rfl ?_
        refine jr_iload_n X.c dX8_scoreOf_43 rfl 3 rfl ?_
        refine jr_iconst X.c (v := (3 : Int32)) dX8_scoreOf_44 (by decide) ?_
        obtain ⟨r45, hr45, h⟩ := cr_bd_s h
        refine jc_Vi X.c (As := [.int x3_4, .int (3 : Int32)]) (V1 := V) (C := RX8) (T := TX8) (N := 22) (ci := 8) 2 (m_X8_part l w V x3_4 (3 : Int32)  r45 hr45) ⟨rfl, rfl⟩ ml_X8_43 im_X8_part sl_X8_part in_X8 cd_X8_part hd_X8_part ⟨Nat.le_of_ble_eq_true rfl, Nat.le_of_ble_eq_true rfl⟩ ⟨Nat.le_of_ble_eq_true rfl, Nat.le_of_ble_eq_true rfl⟩ rfl (Nat.le_of_ble_eq_true rfl) (by decide) ((cr_row_159 w) _) rfl rfl dX8_scoreOf_45 ?_
        refine jr_iload_n X.c dX8_scoreOf_48 rfl 1 rfl ?_
        refine jr_icmp_ne X.c 62 dX8_scoreOf_49 (by decide) (fun q49 => ?_) (fun q49 => ?_)
        · replace h := cr_if_f q49 h
          refine jr_iconst X.c (v := (0 : Int32)) dX8_scoreOf_62 (by decide) ?_
          refine jr_iadd X.c dX8_scoreOf_63 ?_
          refine jr_istore_n X.c (lv2 := [(2, .int (x2_4 + (0 : Int32))), (0, .ref (w.1 159)), (1, .int x1), (3, .int x3_4)]) dX8_scoreOf_64 rfl (by decide) rfl ?_
          refine jr_iinc X.c (v := (x3_4 + (1 : Int32))) (lv2 := [(3, .int (x3_4 + (1 : Int32))), (2, .int (x2_4 + (0 : Int32))), (0, .ref (w.1 159)), (1, .int x1)]) dX8_scoreOf_65 3 rfl (by rfl) (by decide) rfl ?_
          refine jr_goto X.c 4 dX8_scoreOf_68 (by decide) ?_
          cases h
          refine jr_sub [2, 3, 1, 0] rfl ?_
          exact kl (x2_4 + (0 : Int32)) (x3_4 + (1 : Int32)) rfl
        · replace h := cr_if_t q49 h
          refine jr_aload_n X.c dX8_scoreOf_52 rfl 0 rfl ?_
          refine jr_iload_n X.c dX8_scoreOf_53 rfl 3 rfl ?_
          refine jr_iconst X.c (v := (2 : Int32)) dX8_scoreOf_54 (by decide) ?_
          obtain ⟨r55, hr55, h⟩ := cr_bd_s h
          refine jc_Vi X.c (As := [.int x3_4, .int (2 : Int32)]) (V1 := V) (C := RX8) (T := TX8) (N := 22) (ci := 8) 2 (m_X8_part l w V x3_4 (2 : Int32)  r55 hr55) ⟨rfl, rfl⟩ ml_X8_43 im_X8_part sl_X8_part in_X8 cd_X8_part hd_X8_part ⟨Nat.le_of_ble_eq_true rfl, Nat.le_of_ble_eq_true rfl⟩ ⟨Nat.le_of_ble_eq_true rfl, Nat.le_of_ble_eq_true rfl⟩ rfl (Nat.le_of_ble_eq_true rfl) (by decide) ((cr_row_159 w) _) rfl rfl dX8_scoreOf_55 ?_
          refine jr_ineg X.c dX8_scoreOf_58 ?_
          refine jr_goto X.c 63 dX8_scoreOf_59 (by decide) ?_
          refine jr_iadd X.c dX8_scoreOf_63 ?_
          refine jr_istore_n X.c (lv2 := [(2, .int (x2_4 + (-r55))), (0, .ref (w.1 159)), (1, .int x1), (3, .int x3_4)]) dX8_scoreOf_64 rfl (by decide) rfl ?_
          refine jr_iinc X.c (v := (x3_4 + (1 : Int32))) (lv2 := [(3, .int (x3_4 + (1 : Int32))), (2, .int (x2_4 + (-r55))), (0, .ref (w.1 159)), (1, .int x1)]) dX8_scoreOf_65 3 rfl (by rfl) (by decide) rfl ?_
          refine jr_goto X.c 4 dX8_scoreOf_68 (by decide) ?_
          cases h
          refine jr_sub [2, 3, 1, 0] rfl ?_
          exact kl (x2_4 + (-r55)) (x3_4 + (1 : Int32)) rfl
      · replace h := cr_if_t q30 h
        refine jr_aload_n X.c dX8_scoreOf_33 rfl 0 rfl ?_
        refine jr_iload_n X.c dX8_scoreOf_34 rfl 3 rfl ?_
        refine jr_iconst X.c (v := (2 : Int32)) dX8_scoreOf_35 (by decide) ?_
        obtain ⟨r36, hr36, h⟩ := cr_bd_s h
        refine jc_Vi X.c (As := [.int x3_4, .int (2 : Int32)]) (V1 := V) (C := RX8) (T := TX8) (N := 22) (ci := 8) 2 (m_X8_part l w V x3_4 (2 : Int32)  r36 hr36) ⟨rfl, rfl⟩ ml_X8_43 im_X8_part sl_X8_part in_X8 cd_X8_part hd_X8_part ⟨Nat.le_of_ble_eq_true rfl, Nat.le_of_ble_eq_true rfl⟩ ⟨Nat.le_of_ble_eq_true rfl, Nat.le_of_ble_eq_true rfl⟩ rfl (Nat.le_of_ble_eq_true rfl) (by decide) ((cr_row_159 w) _) rfl rfl dX8_scoreOf_36 ?_
        refine jr_goto X.c 63 dX8_scoreOf_39 (by decide) ?_
        refine jr_iadd X.c dX8_scoreOf_63 ?_
        refine jr_istore_n X.c (lv2 := [(2, .int (x2_4 + r36)), (0, .ref (w.1 159)), (1, .int x1), (3, .int x3_4)]) dX8_scoreOf_64 rfl (by decide) rfl ?_
        refine jr_iinc X.c (v := (x3_4 + (1 : Int32))) (lv2 := [(3, .int (x3_4 + (1 : Int32))), (2, .int (x2_4 + r36)), (0, .ref (w.1 159)), (1, .int x1)]) dX8_scoreOf_65 3 rfl (by rfl) (by decide) rfl ?_
        refine jr_goto X.c 4 dX8_scoreOf_68 (by decide) ?_
        cases h
        refine jr_sub [2, 3, 1, 0] rfl ?_
        exact kl (x2_4 + r36) (x3_4 + (1 : Int32)) rfl
def f_X8_scoreOf (x1 : Int32) (V : cr_Hp) : Option (Int32) :=
  cr_bd (cr_it (fun (q : Int32 × Int32) => f_X8_scoreOf_l4 x1 q.1 q.2 V) cr_FU ((0 : Int32), (0 : Int32))) (fun (u2_4_71 : Int32) => some u2_4_71)
set_option maxRecDepth 100000 in
set_option maxHeartbeats 4000000 in
theorem t_X8_scoreOf {p : Program} {l : Launch} {e : Env} {s : State} {m : MethodId} {args : Array Value} {below : List Frame} {meth : Method} {c : Code} {w : cr_Wd} (X : cr_Cx w RX8 (Cond.code yX8_scoreOf cX8_scoreOf 4 (some .int)) cX8_scoreOf 4 p s m args meth c) (x1 : Int32) (V : cr_Hp)  (hr0 : meth.sig.returnType = (some .int)) (x : Int32) (h : f_X8_scoreOf x1 V = some x) : cr_J w 4 p l e rm_X8_scoreOf s m args below meth c 0 0 (MQ below (cr_Qi w V x) args s 0 0 (cr_A w)) V 0 [(0, .ref (w.1 159)), (1, .int x1)] [] := by
  unfold f_X8_scoreOf at h
  refine jr_iconst X.c (v := (0 : Int32)) dX8_scoreOf_0 (by decide) ?_
  refine jr_istore_n X.c (lv2 := [(2, .int (0 : Int32)), (0, .ref (w.1 159)), (1, .int x1)]) dX8_scoreOf_1 rfl (by decide) rfl ?_
  refine jr_iconst X.c (v := (0 : Int32)) dX8_scoreOf_2 (by decide) ?_
  refine jr_istore_n X.c (lv2 := [(3, .int (0 : Int32)), (2, .int (0 : Int32)), (0, .ref (w.1 159)), (1, .int x1)]) dX8_scoreOf_3 rfl (by decide) rfl ?_
  obtain ⟨e4, he4, h⟩ := cr_bd_s h
  have kx71 : ∀ (u2_4_71 : Int32), e4 = u2_4_71 → cr_J w 4 p l e rm_X8_scoreOf s m args below meth c 0 0 (MQ below (cr_Qi w V x) args s 0 0 (cr_A w)) V 71 [(2, .int u2_4_71)] [] := by
    intro u2_4_71 qx
    rw [qx] at h
    try simp only [cr_sm, cr_u2, cr_u3, cr_u4, cr_u5, cr_u6] at h
    refine jr_iload_n X.c dX8_scoreOf_71 rfl 0 rfl ?_
    cases h
    exact jr_iret X.c hr0 dX8_scoreOf_72
  refine jr_sub [2, 3, 1, 0] rfl ?_
  refine cr_it_W (f := (fun (q : Int32 × Int32) => f_X8_scoreOf_l4 x1 q.1 q.2 V)) (P := fun (q : Int32 × Int32) => cr_J w 4 p l e rm_X8_scoreOf s m args below meth c 0 0 (MQ below (cr_Qi w V x) args s 0 0 (cr_A w)) V 4 [(0, .ref (w.1 159)), (1, .int x1), (2, .int q.1), (3, .int q.2)] []) (K := fun z => z = e4) (fun q x hx kl kr => ?_) cr_FU ((0 : Int32), (0 : Int32)) e4 he4 rfl
  obtain ⟨x2_4, x3_4⟩ := q
  exact t_X8_scoreOf_l4 X x1 x2_4 x3_4 V  x hx (fun x2_4 x3_4 ez => kl _ ez) (fun u2_4_71 ez => kx71 u2_4_71 ((kr _ ez).symm))
set_option maxRecDepth 100000 in
set_option maxHeartbeats 4000000 in
theorem m_X8_scoreOf (l : Launch) (w : cr_Wd) (V : cr_Hp) (x1 : Int32)  (x : Int32) (h : f_X8_scoreOf x1 V = some x) : Met l yX8_scoreOf (cr_wds yX8_scoreOf cX8_scoreOf 4 (some .int)) rm_X8_scoreOf (cr_Pc w V [.ref (w.1 159), .int x1]) (cr_Qi w V x) 0 0 (cr_A w) := by
  refine cr_met (own := RX8) (lv := [(0, .ref (w.1 159)), (1, .int x1)]) (by decide +kernel) rfl (Nat.le_of_ble_eq_true rfl) rfl (fun p e s m args below meth c X hr0 => ?_)
  exact t_X8_scoreOf X x1 V  hr0 x h
abbrev rm_X8_score : Room := { frames := 3, cells := 0, slots := 0, locals := 66 }
theorem hd_X8_score : yX8_score.cls = RX8 ∧ yX8_score.cls ≠ "java/lang/invoke/MethodHandle" ∧ yX8_score.cls ≠ "java/lang/invoke/VarHandle" ∧ (parseMethodDescriptor yX8_score.desc).map (fun d => d.parameters.length) = some 1 := by decide +kernel
def f_X8_score (x1 : Int32) (V : cr_Hp) : Option (Int32) :=
  cr_bd (f_X8_within x1 (0 : Int32) (2 : Int32)) (fun (r3 : Int32) => if r3 = 0 then (some (-1001 : Int32)) else (cr_bd (f_X8_scoreOf x1 V) (fun (r11 : Int32) => some r11)))
set_option maxRecDepth 100000 in
set_option maxHeartbeats 4000000 in
theorem t_X8_score {p : Program} {l : Launch} {e : Env} {s : State} {m : MethodId} {args : Array Value} {below : List Frame} {meth : Method} {c : Code} {w : cr_Wd} (X : cr_Cx w RX8 (Cond.code yX8_score cX8_score 2 (some .int)) cX8_score 2 p s m args meth c) (x1 : Int32) (V : cr_Hp)  (hr0 : meth.sig.returnType = (some .int)) (x : Int32) (h : f_X8_score x1 V = some x) : cr_J w 2 p l e rm_X8_score s m args below meth c 0 0 (MQ below (cr_Qi w V x) args s 0 0 (cr_A w)) V 0 [(0, .ref (w.1 159)), (1, .int x1)] [] := by
  unfold f_X8_score at h
  refine jr_iload_n X.c dX8_score_0 rfl 1 rfl ?_
  refine jr_iconst X.c (v := (0 : Int32)) dX8_score_1 (by decide) ?_
  refine jr_iconst X.c (v := (2 : Int32)) dX8_score_2 (by decide) ?_
  obtain ⟨r3, hr3, h⟩ := cr_bd_s h
  refine jc_Si X.c (As := [.int x1, .int (0 : Int32), .int (2 : Int32)]) (V1 := V) 3 (m_X8_within l w V x1 (0 : Int32) (2 : Int32)  r3 hr3) ⟨rfl, rfl⟩ ml_X8_39 st_X8_within in_X8 cd_X8_within hd_X8_within ⟨Nat.le_of_ble_eq_true rfl, Nat.le_of_ble_eq_true rfl⟩ ⟨Nat.le_of_ble_eq_true rfl, Nat.le_of_ble_eq_true rfl⟩ rfl (Nat.le_of_ble_eq_true rfl) rfl dX8_score_3 ?_
  refine jr_if_eq X.c 17 dX8_score_6 (by decide) (fun q6 => ?_) (fun q6 => ?_)
  · replace h := cr_if_t q6 h
    refine jr_sipush X.c (v := (-1001 : Int32)) dX8_score_17 (by decide) ?_
    cases h
    exact jr_iret X.c hr0 dX8_score_20
  · replace h := cr_if_f q6 h
    refine jr_aload_n X.c dX8_score_9 rfl 0 rfl ?_
    refine jr_iload_n X.c dX8_score_10 rfl 1 rfl ?_
    obtain ⟨r11, hr11, h⟩ := cr_bd_s h
    refine jc_Vi X.c (As := [.int x1]) (V1 := V) (C := RX8) (T := TX8) (N := 22) (ci := 8) 1 (m_X8_scoreOf l w V x1  r11 hr11) ⟨rfl, rfl⟩ ml_X8_141 im_X8_scoreOf sl_X8_scoreOf in_X8 cd_X8_scoreOf hd_X8_scoreOf ⟨Nat.le_of_ble_eq_true rfl, Nat.le_of_ble_eq_true rfl⟩ ⟨Nat.le_of_ble_eq_true rfl, Nat.le_of_ble_eq_true rfl⟩ rfl (Nat.le_of_ble_eq_true rfl) (by decide) ((cr_row_159 w) _) rfl rfl dX8_score_11 ?_
    refine jr_goto X.c 20 dX8_score_14 (by decide) ?_
    cases h
    exact jr_iret X.c hr0 dX8_score_20
set_option maxRecDepth 100000 in
set_option maxHeartbeats 4000000 in
theorem m_X8_score (l : Launch) (w : cr_Wd) (V : cr_Hp) (x1 : Int32)  (x : Int32) (h : f_X8_score x1 V = some x) : Met l yX8_score (cr_wds yX8_score cX8_score 2 (some .int)) rm_X8_score (cr_Pc w V [.ref (w.1 159), .int x1]) (cr_Qi w V x) 0 0 (cr_A w) := by
  refine cr_met (own := RX8) (lv := [(0, .ref (w.1 159)), (1, .int x1)]) (by decide +kernel) rfl (Nat.le_of_ble_eq_true rfl) rfl (fun p e s m args below meth c X hr0 => ?_)
  exact t_X8_score X x1 V  hr0 x h
abbrev rm_X8_findLeader : Room := { frames := 3, cells := 0, slots := 0, locals := 66 }
theorem hd_X8_findLeader : yX8_findLeader.cls = RX8 ∧ yX8_findLeader.cls ≠ "java/lang/invoke/MethodHandle" ∧ yX8_findLeader.cls ≠ "java/lang/invoke/VarHandle" ∧ (parseMethodDescriptor yX8_findLeader.desc).map (fun d => d.parameters.length) = some 0 := by decide +kernel
def f_X8_findLeader_l4 (x1_4 : Int32) (x2_4 : Int32) (V : cr_Hp) : Option ((Int32 × Int32) ⊕ Int32) :=
  if (3 : Int32) ≤ x2_4 then (some (.inr x1_4)) else (cr_bd (f_X8_scoreOf x2_4 V) (fun (r11 : Int32) => cr_bd (f_X8_scoreOf x1_4 V) (fun (r16 : Int32) => if r11 ≤ r16 then (some (.inl (x1_4, (x2_4 + (1 : Int32))))) else (some (.inl (x2_4, (x2_4 + (1 : Int32))))))))
set_option maxRecDepth 100000 in
set_option maxHeartbeats 4000000 in
theorem t_X8_findLeader_l4 {p : Program} {l : Launch} {e : Env} {s : State} {m : MethodId} {args : Array Value} {below : List Frame} {meth : Method} {c : Code} {w : cr_Wd} {Q : State → Prop} (X : cr_Cx w RX8 (Cond.code yX8_findLeader cX8_findLeader 3 (some .int)) cX8_findLeader 3 p s m args meth c) (x1_4 : Int32) (x2_4 : Int32) (V : cr_Hp)  (x : (Int32 × Int32) ⊕ Int32) (h : f_X8_findLeader_l4 x1_4 x2_4 V = some x) (kl : ∀ (x1_4 : Int32) (x2_4 : Int32), x = .inl (x1_4, x2_4) → cr_J w 3 p l e rm_X8_findLeader s m args below meth c 0 0 Q V 4 [(0, .ref (w.1 159)), (1, .int x1_4), (2, .int x2_4)] []) (kr34 : ∀ (u1_4_34 : Int32), x = .inr u1_4_34 → cr_J w 3 p l e rm_X8_findLeader s m args below meth c 0 0 Q V 34 [(1, .int u1_4_34)] []) : cr_J w 3 p l e rm_X8_findLeader s m args below meth c 0 0 Q V 4 [(0, .ref (w.1 159)), (1, .int x1_4), (2, .int x2_4)] [] := by
  unfold f_X8_findLeader_l4 at h
  refine jr_iload_n X.c dX8_findLeader_4 rfl 2 rfl ?_
  refine jr_iconst X.c (v := (3 : Int32)) dX8_findLeader_5 (by decide) ?_
  refine jr_icmp_ge X.c 34 dX8_findLeader_6 (by decide) (fun q6 => ?_) (fun q6 => ?_)
  · replace h := cr_if_t q6 h
    cases h
    refine jr_sub [1] rfl ?_
    exact kr34 x1_4 rfl
  · replace h := cr_if_f q6 h
    refine jr_aload_n X.c dX8_findLeader_9 rfl 0 rfl ?_
    refine jr_iload_n X.c dX8_findLeader_10 rfl 2 rfl ?_
    obtain ⟨r11, hr11, h⟩ := cr_bd_s h
    refine jc_Vi X.c (As := [.int x2_4]) (V1 := V) (C := RX8) (T := TX8) (N := 22) (ci := 8) 1 (m_X8_scoreOf l w V x2_4  r11 hr11) ⟨rfl, rfl⟩ ml_X8_141 im_X8_scoreOf sl_X8_scoreOf in_X8 cd_X8_scoreOf hd_X8_scoreOf ⟨Nat.le_of_ble_eq_true rfl, Nat.le_of_ble_eq_true rfl⟩ ⟨Nat.le_of_ble_eq_true rfl, Nat.le_of_ble_eq_true rfl⟩ rfl (Nat.le_of_ble_eq_true rfl) (by decide) ((cr_row_159 w) _) rfl rfl dX8_findLeader_11 ?_
    refine jr_aload_n X.c dX8_findLeader_14 rfl 0 rfl ?_
    refine jr_iload_n X.c dX8_findLeader_15 rfl 1 rfl ?_
    obtain ⟨r16, hr16, h⟩ := cr_bd_s h
    refine jc_Vi X.c (As := [.int x1_4]) (V1 := V) (C := RX8) (T := TX8) (N := 22) (ci := 8) 1 (m_X8_scoreOf l w V x1_4  r16 hr16) ⟨rfl, rfl⟩ ml_X8_141 im_X8_scoreOf sl_X8_scoreOf in_X8 cd_X8_scoreOf hd_X8_scoreOf ⟨Nat.le_of_ble_eq_true rfl, Nat.le_of_ble_eq_true rfl⟩ ⟨Nat.le_of_ble_eq_true rfl, Nat.le_of_ble_eq_true rfl⟩ rfl (Nat.le_of_ble_eq_true rfl) (by decide) ((cr_row_159 w) _) rfl rfl dX8_findLeader_16 ?_
    refine jr_icmp_le X.c 26 dX8_findLeader_19 (by decide) (fun q19 => ?_) (fun q19 => ?_)
    · replace h := cr_if_t q19 h
      refine jr_iload_n X.c dX8_findLeader_26 rfl 1 rfl ?_
      refine jr_istore_n X.c (lv2 := [(1, .int x1_4), (0, .ref (w.1 159)), (2, .int x2_4)]) dX8_findLeader_27 rfl (by decide) rfl ?_
      refine jr_iinc X.c (v := (x2_4 + (1 : Int32))) (lv2 := [(2, .int (x2_4 + (1 : Int32))), (1, .int x1_4), (0, .ref (w.1 159))]) dX8_findLeader_28 2 rfl (by rfl) (by decide) rfl ?_
      refine jr_goto X.c 4 dX8_findLeader_31 (by decide) ?_
      cases h
      refine jr_sub [2, 1, 0] rfl ?_
      exact kl x1_4 (x2_4 + (1 : Int32)) rfl
    · replace h := cr_if_f q19 h
      refine jr_iload_n X.c dX8_findLeader_22 rfl 2 rfl ?_
      refine jr_goto X.c 27 dX8_findLeader_23 (by decide) ?_
      refine jr_istore_n X.c (lv2 := [(1, .int x2_4), (0, .ref (w.1 159)), (2, .int x2_4)]) dX8_findLeader_27 rfl (by decide) rfl ?_
      refine jr_iinc X.c (v := (x2_4 + (1 : Int32))) (lv2 := [(2, .int (x2_4 + (1 : Int32))), (1, .int x2_4), (0, .ref (w.1 159))]) dX8_findLeader_28 2 rfl (by rfl) (by decide) rfl ?_
      refine jr_goto X.c 4 dX8_findLeader_31 (by decide) ?_
      cases h
      refine jr_sub [2, 1, 0] rfl ?_
      exact kl x2_4 (x2_4 + (1 : Int32)) rfl
def f_X8_findLeader  (V : cr_Hp) : Option (Int32) :=
  cr_bd (cr_it (fun (q : Int32 × Int32) => f_X8_findLeader_l4  q.1 q.2 V) cr_FU ((0 : Int32), (1 : Int32))) (fun (u1_4_34 : Int32) => some u1_4_34)
set_option maxRecDepth 100000 in
set_option maxHeartbeats 4000000 in
theorem t_X8_findLeader {p : Program} {l : Launch} {e : Env} {s : State} {m : MethodId} {args : Array Value} {below : List Frame} {meth : Method} {c : Code} {w : cr_Wd} (X : cr_Cx w RX8 (Cond.code yX8_findLeader cX8_findLeader 3 (some .int)) cX8_findLeader 3 p s m args meth c)  (V : cr_Hp)  (hr0 : meth.sig.returnType = (some .int)) (x : Int32) (h : f_X8_findLeader  V = some x) : cr_J w 3 p l e rm_X8_findLeader s m args below meth c 0 0 (MQ below (cr_Qi w V x) args s 0 0 (cr_A w)) V 0 [(0, .ref (w.1 159))] [] := by
  unfold f_X8_findLeader at h
  refine jr_iconst X.c (v := (0 : Int32)) dX8_findLeader_0 (by decide) ?_
  refine jr_istore_n X.c (lv2 := [(1, .int (0 : Int32)), (0, .ref (w.1 159))]) dX8_findLeader_1 rfl (by decide) rfl ?_
  refine jr_iconst X.c (v := (1 : Int32)) dX8_findLeader_2 (by decide) ?_
  refine jr_istore_n X.c (lv2 := [(2, .int (1 : Int32)), (1, .int (0 : Int32)), (0, .ref (w.1 159))]) dX8_findLeader_3 rfl (by decide) rfl ?_
  obtain ⟨e4, he4, h⟩ := cr_bd_s h
  have kx34 : ∀ (u1_4_34 : Int32), e4 = u1_4_34 → cr_J w 3 p l e rm_X8_findLeader s m args below meth c 0 0 (MQ below (cr_Qi w V x) args s 0 0 (cr_A w)) V 34 [(1, .int u1_4_34)] [] := by
    intro u1_4_34 qx
    rw [qx] at h
    try simp only [cr_sm, cr_u2, cr_u3, cr_u4, cr_u5, cr_u6] at h
    refine jr_iload_n X.c dX8_findLeader_34 rfl 0 rfl ?_
    cases h
    exact jr_iret X.c hr0 dX8_findLeader_35
  refine jr_sub [2, 1, 0] rfl ?_
  refine cr_it_W (f := (fun (q : Int32 × Int32) => f_X8_findLeader_l4  q.1 q.2 V)) (P := fun (q : Int32 × Int32) => cr_J w 3 p l e rm_X8_findLeader s m args below meth c 0 0 (MQ below (cr_Qi w V x) args s 0 0 (cr_A w)) V 4 [(0, .ref (w.1 159)), (1, .int q.1), (2, .int q.2)] []) (K := fun z => z = e4) (fun q x hx kl kr => ?_) cr_FU ((0 : Int32), (1 : Int32)) e4 he4 rfl
  obtain ⟨x1_4, x2_4⟩ := q
  exact t_X8_findLeader_l4 X x1_4 x2_4 V  x hx (fun x1_4 x2_4 ez => kl _ ez) (fun u1_4_34 ez => kx34 u1_4_34 ((kr _ ez).symm))
set_option maxRecDepth 100000 in
set_option maxHeartbeats 4000000 in
theorem m_X8_findLeader (l : Launch) (w : cr_Wd) (V : cr_Hp)   (x : Int32) (h : f_X8_findLeader  V = some x) : Met l yX8_findLeader (cr_wds yX8_findLeader cX8_findLeader 3 (some .int)) rm_X8_findLeader (cr_Pc w V [.ref (w.1 159)]) (cr_Qi w V x) 0 0 (cr_A w) := by
  refine cr_met (own := RX8) (lv := [(0, .ref (w.1 159))]) (by decide +kernel) rfl (Nat.le_of_ble_eq_true rfl) rfl (fun p e s m args below meth c X hr0 => ?_)
  exact t_X8_findLeader X  V  hr0 x h
abbrev rm_X8_leader : Room := { frames := 4, cells := 0, slots := 0, locals := 88 }
theorem hd_X8_leader : yX8_leader.cls = RX8 ∧ yX8_leader.cls ≠ "java/lang/invoke/MethodHandle" ∧ yX8_leader.cls ≠ "java/lang/invoke/VarHandle" ∧ (parseMethodDescriptor yX8_leader.desc).map (fun d => d.parameters.length) = some 0 := by decide +kernel
def f_X8_leader  (V : cr_Hp) : Option (Int32) :=
  cr_bd (f_X8_findLeader  V) (fun (r1 : Int32) => some r1)
set_option maxRecDepth 100000 in
set_option maxHeartbeats 4000000 in
theorem t_X8_leader {p : Program} {l : Launch} {e : Env} {s : State} {m : MethodId} {args : Array Value} {below : List Frame} {meth : Method} {c : Code} {w : cr_Wd} (X : cr_Cx w RX8 (Cond.code yX8_leader cX8_leader 1 (some .int)) cX8_leader 1 p s m args meth c)  (V : cr_Hp)  (hr0 : meth.sig.returnType = (some .int)) (x : Int32) (h : f_X8_leader  V = some x) : cr_J w 1 p l e rm_X8_leader s m args below meth c 0 0 (MQ below (cr_Qi w V x) args s 0 0 (cr_A w)) V 0 [(0, .ref (w.1 159))] [] := by
  unfold f_X8_leader at h
  refine jr_aload_n X.c dX8_leader_0 rfl 0 rfl ?_
  obtain ⟨r1, hr1, h⟩ := cr_bd_s h
  refine jc_Vi X.c (As := []) (V1 := V) (C := RX8) (T := TX8) (N := 22) (ci := 8) 0 (m_X8_findLeader l w V   r1 hr1) ⟨rfl, rfl⟩ ml_X8_144 im_X8_findLeader sl_X8_findLeader in_X8 cd_X8_findLeader hd_X8_findLeader ⟨Nat.le_of_ble_eq_true rfl, Nat.le_of_ble_eq_true rfl⟩ ⟨Nat.le_of_ble_eq_true rfl, Nat.le_of_ble_eq_true rfl⟩ rfl (Nat.le_of_ble_eq_true rfl) (by decide) ((cr_row_159 w) _) rfl rfl dX8_leader_1 ?_
  cases h
  exact jr_iret X.c hr0 dX8_leader_4
set_option maxRecDepth 100000 in
set_option maxHeartbeats 4000000 in
theorem m_X8_leader (l : Launch) (w : cr_Wd) (V : cr_Hp)   (x : Int32) (h : f_X8_leader  V = some x) : Met l yX8_leader (cr_wds yX8_leader cX8_leader 1 (some .int)) rm_X8_leader (cr_Pc w V [.ref (w.1 159)]) (cr_Qi w V x) 0 0 (cr_A w) := by
  refine cr_met (own := RX8) (lv := [(0, .ref (w.1 159))]) (by decide +kernel) rfl (Nat.le_of_ble_eq_true rfl) rfl (fun p e s m args below meth c X hr0 => ?_)
  exact t_X8_leader X  V  hr0 x h
abbrev rm_X8_ifFlicked : Room := { frames := 6, cells := 0, slots := 0, locals := 150 }
theorem hd_X8_ifFlicked : yX8_ifFlicked.cls = RX8 ∧ yX8_ifFlicked.cls ≠ "java/lang/invoke/MethodHandle" ∧ yX8_ifFlicked.cls ≠ "java/lang/invoke/VarHandle" ∧ (parseMethodDescriptor yX8_ifFlicked.desc).map (fun d => d.parameters.length) = some 4 := by decide +kernel
def f_X8_ifFlicked (x1 : Int32) (x2 : Int32) (x3 : Int32) (x4 : Int32) (V : cr_Hp) : Option (Int32 × cr_Hp) :=
  cr_bd (f_X8_isMarble x1 V) (fun (r2 : Int32) => if r2 = 0 then (some ((-1001 : Int32), V)) else (cr_bd (f_X8_isFlick x2 x3) (fun (r14 : Int32) => if r14 = 0 then (some ((-1002 : Int32), V)) else (cr_bd (f_X8_within x4 (0 : Int32) (4 : Int32)) (fun (r24 : Int32) => if r24 = 0 then (some ((-1002 : Int32), V)) else (cr_bd (f_X8_isThere x1 V) (fun (r36 : Int32) => if r36 = 0 then (some ((-1003 : Int32), V)) else (cr_bd (f_X8_copies 160 161 (0 : Int32) (0 : Int32) V) (fun (V56 : cr_Hp) => cr_bd (f_X8_part x1 (3 : Int32) V56) (fun (r63 : Int32) => cr_bd (f_X8_flicks r63 x1 x2 x3 V56) (fun (V69 : cr_Hp) => cr_gd (cr_ix (4 : Int32) 80) (cr_gd (cr_ix (4 : Int32) 80) (cr_lt (((V69 160 (4 : Int32).toNatClampNeg) - (V69 161 (4 : Int32).toNatClampNeg))) (fun (n85 : Int32) => cr_bd (f_X8_copies 161 160 (0 : Int32) (0 : Int32) V69) (fun (V97 : cr_Hp) => if x4 = 0 then (some ((V97 159 13), V97)) else (if x4 = (1 : Int32) then (some ((V97 159 14), V97)) else (if x4 = (2 : Int32) then (some (n85, V97)) else (if x4 = (3 : Int32) then (some ((V97 159 10), V97)) else (some ((((100 : Int32) * (V97 159 11)) + (V97 159 12)), V97))))))))))))))))))))
set_option maxRecDepth 100000 in
set_option maxHeartbeats 4000000 in
theorem t_X8_ifFlicked {p : Program} {l : Launch} {e : Env} {s : State} {m : MethodId} {args : Array Value} {below : List Frame} {meth : Method} {c : Code} {w : cr_Wd} (X : cr_Cx w RX8 (Cond.code yX8_ifFlicked cX8_ifFlicked 6 (some .int)) cX8_ifFlicked 6 p s m args meth c) (x1 : Int32) (x2 : Int32) (x3 : Int32) (x4 : Int32) (V : cr_Hp)  (hr0 : meth.sig.returnType = (some .int)) (x : Int32 × cr_Hp) (h : f_X8_ifFlicked x1 x2 x3 x4 V = some x) : cr_J w 6 p l e rm_X8_ifFlicked s m args below meth c 0 0 (MQ below (cr_Qi w x.2 x.1) args s 0 0 (cr_A w)) V 0 [(0, .ref (w.1 159)), (1, .int x1), (2, .int x2), (3, .int x3), (4, .int x4)] [] := by
  unfold f_X8_ifFlicked at h
  refine jr_aload_n X.c dX8_ifFlicked_0 rfl 0 rfl ?_
  refine jr_iload_n X.c dX8_ifFlicked_1 rfl 1 rfl ?_
  obtain ⟨r2, hr2, h⟩ := cr_bd_s h
  refine jc_Vi X.c (As := [.int x1]) (V1 := V) (C := RX8) (T := TX8) (N := 22) (ci := 8) 1 (m_X8_isMarble l w V x1  r2 hr2) ⟨rfl, rfl⟩ ml_X8_95 im_X8_isMarble sl_X8_isMarble in_X8 cd_X8_isMarble hd_X8_isMarble ⟨Nat.le_of_ble_eq_true rfl, Nat.le_of_ble_eq_true rfl⟩ ⟨Nat.le_of_ble_eq_true rfl, Nat.le_of_ble_eq_true rfl⟩ rfl (Nat.le_of_ble_eq_true rfl) (by decide) ((cr_row_159 w) _) rfl rfl dX8_ifFlicked_2 ?_
  refine jr_if_ne X.c 12 dX8_ifFlicked_5 (by decide) (fun q5 => ?_) (fun q5 => ?_)
  · replace h := cr_if_f q5 h
    refine jr_iload_n X.c dX8_ifFlicked_12 rfl 2 rfl ?_
    refine jr_iload_n X.c dX8_ifFlicked_13 rfl 3 rfl ?_
    obtain ⟨r14, hr14, h⟩ := cr_bd_s h
    refine jc_Si X.c (As := [.int x2, .int x3]) (V1 := V) 2 (m_X8_isFlick l w V x2 x3  r14 hr14) ⟨rfl, rfl⟩ ml_X8_98 st_X8_isFlick in_X8 cd_X8_isFlick hd_X8_isFlick ⟨Nat.le_of_ble_eq_true rfl, Nat.le_of_ble_eq_true rfl⟩ ⟨Nat.le_of_ble_eq_true rfl, Nat.le_of_ble_eq_true rfl⟩ rfl (Nat.le_of_ble_eq_true rfl) rfl dX8_ifFlicked_14 ?_
    refine jr_if_eq X.c 30 dX8_ifFlicked_17 (by decide) (fun q17 => ?_) (fun q17 => ?_)
    · replace h := cr_if_t q17 h
      refine jr_sipush X.c (v := (-1002 : Int32)) dX8_ifFlicked_30 (by decide) ?_
      cases h
      exact jr_iret X.c hr0 dX8_ifFlicked_33
    · replace h := cr_if_f q17 h
      refine jr_iload X.c dX8_ifFlicked_20 4 rfl ?_
      refine jr_iconst X.c (v := (0 : Int32)) dX8_ifFlicked_22 (by decide) ?_
      refine jr_iconst X.c (v := (4 : Int32)) dX8_ifFlicked_23 (by decide) ?_
      obtain ⟨r24, hr24, h⟩ := cr_bd_s h
      refine jc_Si X.c (As := [.int x4, .int (0 : Int32), .int (4 : Int32)]) (V1 := V) 3 (m_X8_within l w V x4 (0 : Int32) (4 : Int32)  r24 hr24) ⟨rfl, rfl⟩ ml_X8_39 st_X8_within in_X8 cd_X8_within hd_X8_within ⟨Nat.le_of_ble_eq_true rfl, Nat.le_of_ble_eq_true rfl⟩ ⟨Nat.le_of_ble_eq_true rfl, Nat.le_of_ble_eq_true rfl⟩ rfl (Nat.le_of_ble_eq_true rfl) rfl dX8_ifFlicked_24 ?_
      refine jr_if_ne X.c 34 dX8_ifFlicked_27 (by decide) (fun q27 => ?_) (fun q27 => ?_)
      · replace h := cr_if_f q27 h
        refine jr_aload_n X.c dX8_ifFlicked_34 rfl 0 rfl ?_
        refine jr_iload_n X.c dX8_ifFlicked_35 rfl 1 rfl ?_
        obtain ⟨r36, hr36, h⟩ := cr_bd_s h
        refine jc_Vi X.c (As := [.int x1]) (V1 := V) (C := RX8) (T := TX8) (N := 22) (ci := 8) 1 (m_X8_isThere l w V x1  r36 hr36) ⟨rfl, rfl⟩ ml_X8_56 im_X8_isThere sl_X8_isThere in_X8 cd_X8_isThere hd_X8_isThere ⟨Nat.le_of_ble_eq_true rfl, Nat.le_of_ble_eq_true rfl⟩ ⟨Nat.le_of_ble_eq_true rfl, Nat.le_of_ble_eq_true rfl⟩ rfl (Nat.le_of_ble_eq_true rfl) (by decide) ((cr_row_159 w) _) rfl rfl dX8_ifFlicked_36 ?_
        refine jr_if_ne X.c 46 dX8_ifFlicked_39 (by decide) (fun q39 => ?_) (fun q39 => ?_)
        · replace h := cr_if_f q39 h
          refine jr_aload_n X.c dX8_ifFlicked_46 rfl 0 rfl ?_
          refine jr_get X.c (ci := 8) (C := RX8) (T := TX8) (N := 22) (k := 0) rfl cr_in8 (by decide) ((cr_row_159 w) _) rfl (by decide) fl_X8_7 dX8_ifFlicked_47 ?_
          refine jr_iconst X.c (v := (0 : Int32)) dX8_ifFlicked_50 (by decide) ?_
          refine jr_aload_n X.c dX8_ifFlicked_51 rfl 0 rfl ?_
          refine jr_get X.c (ci := 8) (C := RX8) (T := TX8) (N := 22) (k := 1) rfl cr_in8 (by decide) ((cr_row_159 w) _) rfl (by decide) fl_X8_13 dX8_ifFlicked_52 ?_
          refine jr_iconst X.c (v := (0 : Int32)) dX8_ifFlicked_55 (by decide) ?_
          obtain ⟨V56, hr56, h⟩ := cr_bd_s h
          refine jc_Sv X.c (As := [.ref (w.1 160), .int (0 : Int32), .ref (w.1 161), .int (0 : Int32)]) (V1 := V56) 4 (m_X8_copies l w V 160 161 (0 : Int32) (0 : Int32) (by decide) (by decide) V56 hr56) ⟨rfl, rfl⟩ ml_X8_35 st_X8_copies in_X8 cd_X8_copies hd_X8_copies ⟨Nat.le_of_ble_eq_true rfl, Nat.le_of_ble_eq_true rfl⟩ ⟨Nat.le_of_ble_eq_true rfl, Nat.le_of_ble_eq_true rfl⟩ rfl (Nat.le_of_ble_eq_true rfl) rfl dX8_ifFlicked_56 ?_
          refine jr_aload_n X.c dX8_ifFlicked_59 rfl 0 rfl ?_
          refine jr_aload_n X.c dX8_ifFlicked_60 rfl 0 rfl ?_
          refine jr_iload_n X.c dX8_ifFlicked_61 rfl 1 rfl ?_
          refine jr_iconst X.c (v := (3 : Int32)) dX8_ifFlicked_62 (by decide) ?_
          obtain ⟨r63, hr63, h⟩ := cr_bd_s h
          refine jc_Vi X.c (As := [.int x1, .int (3 : Int32)]) (V1 := V56) (C := RX8) (T := TX8) (N := 22) (ci := 8) 2 (m_X8_part l w V56 x1 (3 : Int32)  r63 hr63) ⟨rfl, rfl⟩ ml_X8_43 im_X8_part sl_X8_part in_X8 cd_X8_part hd_X8_part ⟨Nat.le_of_ble_eq_true rfl, Nat.le_of_ble_eq_true rfl⟩ ⟨Nat.le_of_ble_eq_true rfl, Nat.le_of_ble_eq_true rfl⟩ rfl (Nat.le_of_ble_eq_true rfl) (by decide) ((cr_row_159 w) _) rfl rfl dX8_ifFlicked_63 ?_
          refine jr_iload_n X.c dX8_ifFlicked_66 rfl 1 rfl ?_
          refine jr_iload_n X.c dX8_ifFlicked_67 rfl 2 rfl ?_
          refine jr_iload_n X.c dX8_ifFlicked_68 rfl 3 rfl ?_
          obtain ⟨V69, hr69, h⟩ := cr_bd_s h
          refine jc_Vv X.c (As := [.int r63, .int x1, .int x2, .int x3]) (V1 := V69) (C := RX8) (T := TX8) (N := 22) (ci := 8) 4 (m_X8_flicks l w V56 r63 x1 x2 x3  V69 hr69) ⟨rfl, rfl⟩ ml_X8_105 im_X8_flicks sl_X8_flicks in_X8 cd_X8_flicks hd_X8_flicks ⟨Nat.le_of_ble_eq_true rfl, Nat.le_of_ble_eq_true rfl⟩ ⟨Nat.le_of_ble_eq_true rfl, Nat.le_of_ble_eq_true rfl⟩ rfl (Nat.le_of_ble_eq_true rfl) (by decide) ((cr_row_159 w) _) rfl rfl dX8_ifFlicked_69 ?_
          refine jr_aload_n X.c dX8_ifFlicked_72 rfl 0 rfl ?_
          refine jr_get X.c (ci := 8) (C := RX8) (T := TX8) (N := 22) (k := 0) rfl cr_in8 (by decide) ((cr_row_159 w) _) rfl (by decide) fl_X8_7 dX8_ifFlicked_73 ?_
          refine jr_iconst X.c (v := (4 : Int32)) dX8_ifFlicked_76 (by decide) ?_
          obtain ⟨hi77, h⟩ := cr_gd_s h
          refine jr_iald X.c (by decide) ((cr_row_160 w) _) hi77 dX8_ifFlicked_77 ?_
          refine jr_aload_n X.c dX8_ifFlicked_78 rfl 0 rfl ?_
          refine jr_get X.c (ci := 8) (C := RX8) (T := TX8) (N := 22) (k := 1) rfl cr_in8 (by decide) ((cr_row_159 w) _) rfl (by decide) fl_X8_13 dX8_ifFlicked_79 ?_
          refine jr_iconst X.c (v := (4 : Int32)) dX8_ifFlicked_82 (by decide) ?_
          obtain ⟨hi83, h⟩ := cr_gd_s h
          refine jr_iald X.c (by decide) ((cr_row_161 w) _) hi83 dX8_ifFlicked_83 ?_
          refine jr_isub X.c dX8_ifFlicked_84 ?_
          obtain ⟨n85, en85, h⟩ := cr_lt_s h
          refine jr_top en85 ?_
          refine jr_istore X.c (lv2 := [(5, .int n85), (0, .ref (w.1 159)), (1, .int x1), (2, .int x2), (3, .int x3), (4, .int x4)]) dX8_ifFlicked_85 (by decide) rfl ?_
          refine jr_aload_n X.c dX8_ifFlicked_87 rfl 1 rfl ?_
          refine jr_get X.c (ci := 8) (C := RX8) (T := TX8) (N := 22) (k := 1) rfl cr_in8 (by decide) ((cr_row_159 w) _) rfl (by decide) fl_X8_13 dX8_ifFlicked_88 ?_
          refine jr_iconst X.c (v := (0 : Int32)) dX8_ifFlicked_91 (by decide) ?_
          refine jr_aload_n X.c dX8_ifFlicked_92 rfl 1 rfl ?_
          refine jr_get X.c (ci := 8) (C := RX8) (T := TX8) (N := 22) (k := 0) rfl cr_in8 (by decide) ((cr_row_159 w) _) rfl (by decide) fl_X8_7 dX8_ifFlicked_93 ?_
          refine jr_iconst X.c (v := (0 : Int32)) dX8_ifFlicked_96 (by decide) ?_
          obtain ⟨V97, hr97, h⟩ := cr_bd_s h
          refine jc_Sv X.c (As := [.ref (w.1 161), .int (0 : Int32), .ref (w.1 160), .int (0 : Int32)]) (V1 := V97) 4 (m_X8_copies l w V69 161 160 (0 : Int32) (0 : Int32) (by decide) (by decide) V97 hr97) ⟨rfl, rfl⟩ ml_X8_35 st_X8_copies in_X8 cd_X8_copies hd_X8_copies ⟨Nat.le_of_ble_eq_true rfl, Nat.le_of_ble_eq_true rfl⟩ ⟨Nat.le_of_ble_eq_true rfl, Nat.le_of_ble_eq_true rfl⟩ rfl (Nat.le_of_ble_eq_true rfl) rfl dX8_ifFlicked_97 ?_
          refine jr_iload X.c dX8_ifFlicked_100 5 rfl ?_
          refine jr_if_ne X.c 112 dX8_ifFlicked_102 (by decide) (fun q102 => ?_) (fun q102 => ?_)
          · replace h := cr_if_f q102 h
            refine jr_iload X.c dX8_ifFlicked_112 5 rfl ?_
            refine jr_iconst X.c (v := (1 : Int32)) dX8_ifFlicked_114 (by decide) ?_
            refine jr_icmp_ne X.c 125 dX8_ifFlicked_115 (by decide) (fun q115 => ?_) (fun q115 => ?_)
            · replace h := cr_if_f q115 h
              refine jr_iload X.c dX8_ifFlicked_125 5 rfl ?_
              refine jr_iconst X.c (v := (2 : Int32)) dX8_ifFlicked_127 (by decide) ?_
              refine jr_icmp_ne X.c 136 dX8_ifFlicked_128 (by decide) (fun q128 => ?_) (fun q128 => ?_)
              · replace h := cr_if_f q128 h
                refine jr_iload X.c dX8_ifFlicked_136 5 rfl ?_
                refine jr_iconst X.c (v := (3 : Int32)) dX8_ifFlicked_138 (by decide) ?_
                refine jr_icmp_ne X.c 149 dX8_ifFlicked_139 (by decide) (fun q139 => ?_) (fun q139 => ?_)
                · replace h := cr_if_f q139 h
                  refine jr_bipush X.c (v := (100 : Int32)) dX8_ifFlicked_149 (by decide) ?_
                  refine jr_aload_n X.c dX8_ifFlicked_151 rfl 1 rfl ?_
                  refine jr_get X.c (ci := 8) (C := RX8) (T := TX8) (N := 22) (k := 11) rfl cr_in8 (by decide) ((cr_row_159 w) _) rfl (by decide) fl_X8_80 dX8_ifFlicked_152 ?_
                  refine jr_imul X.c dX8_ifFlicked_155 ?_
                  refine jr_aload_n X.c dX8_ifFlicked_156 rfl 1 rfl ?_
                  refine jr_get X.c (ci := 8) (C := RX8) (T := TX8) (N := 22) (k := 12) rfl cr_in8 (by decide) ((cr_row_159 w) _) rfl (by decide) fl_X8_83 dX8_ifFlicked_157 ?_
                  refine jr_iadd X.c dX8_ifFlicked_160 ?_
                  cases h
                  exact jr_iret X.c hr0 dX8_ifFlicked_161
                · replace h := cr_if_t q139 h
                  refine jr_aload_n X.c dX8_ifFlicked_142 rfl 1 rfl ?_
                  refine jr_get X.c (ci := 8) (C := RX8) (T := TX8) (N := 22) (k := 10) rfl cr_in8 (by decide) ((cr_row_159 w) _) rfl (by decide) fl_X8_77 dX8_ifFlicked_143 ?_
                  refine jr_goto X.c 161 dX8_ifFlicked_146 (by decide) ?_
                  cases h
                  exact jr_iret X.c hr0 dX8_ifFlicked_161
              · replace h := cr_if_t q128 h
                refine jr_iload X.c dX8_ifFlicked_131 0 rfl ?_
                refine jr_goto X.c 161 dX8_ifFlicked_133 (by decide) ?_
                cases h
                exact jr_iret X.c hr0 dX8_ifFlicked_161
            · replace h := cr_if_t q115 h
              refine jr_aload_n X.c dX8_ifFlicked_118 rfl 1 rfl ?_
              refine jr_get X.c (ci := 8) (C := RX8) (T := TX8) (N := 22) (k := 14) rfl cr_in8 (by decide) ((cr_row_159 w) _) rfl (by decide) fl_X8_92 dX8_ifFlicked_119 ?_
              refine jr_goto X.c 161 dX8_ifFlicked_122 (by decide) ?_
              cases h
              exact jr_iret X.c hr0 dX8_ifFlicked_161
          · replace h := cr_if_t q102 h
            refine jr_aload_n X.c dX8_ifFlicked_105 rfl 1 rfl ?_
            refine jr_get X.c (ci := 8) (C := RX8) (T := TX8) (N := 22) (k := 13) rfl cr_in8 (by decide) ((cr_row_159 w) _) rfl (by decide) fl_X8_89 dX8_ifFlicked_106 ?_
            refine jr_goto X.c 161 dX8_ifFlicked_109 (by decide) ?_
            cases h
            exact jr_iret X.c hr0 dX8_ifFlicked_161
        · replace h := cr_if_t q39 h
          refine jr_sipush X.c (v := (-1003 : Int32)) dX8_ifFlicked_42 (by decide) ?_
          cases h
          exact jr_iret X.c hr0 dX8_ifFlicked_45
      · replace h := cr_if_t q27 h
        refine jr_sipush X.c (v := (-1002 : Int32)) dX8_ifFlicked_30 (by decide) ?_
        cases h
        exact jr_iret X.c hr0 dX8_ifFlicked_33
  · replace h := cr_if_t q5 h
    refine jr_sipush X.c (v := (-1001 : Int32)) dX8_ifFlicked_8 (by decide) ?_
    cases h
    exact jr_iret X.c hr0 dX8_ifFlicked_11
set_option maxRecDepth 100000 in
set_option maxHeartbeats 4000000 in
theorem m_X8_ifFlicked (l : Launch) (w : cr_Wd) (V : cr_Hp) (x1 : Int32) (x2 : Int32) (x3 : Int32) (x4 : Int32)  (x : Int32 × cr_Hp) (h : f_X8_ifFlicked x1 x2 x3 x4 V = some x) : Met l yX8_ifFlicked (cr_wds yX8_ifFlicked cX8_ifFlicked 6 (some .int)) rm_X8_ifFlicked (cr_Pc w V [.ref (w.1 159), .int x1, .int x2, .int x3, .int x4]) (cr_Qi w x.2 x.1) 0 0 (cr_A w) := by
  refine cr_met (own := RX8) (lv := [(0, .ref (w.1 159)), (1, .int x1), (2, .int x2), (3, .int x3), (4, .int x4)]) (by decide +kernel) rfl (Nat.le_of_ble_eq_true rfl) rfl (fun p e s m args below meth c X hr0 => ?_)
  exact t_X8_ifFlicked X x1 x2 x3 x4 V  hr0 x h
abbrev rm_X8_bestFlick : Room := { frames := 6, cells := 0, slots := 0, locals := 150 }
theorem hd_X8_bestFlick : yX8_bestFlick.cls = RX8 ∧ yX8_bestFlick.cls ≠ "java/lang/invoke/MethodHandle" ∧ yX8_bestFlick.cls ≠ "java/lang/invoke/VarHandle" ∧ (parseMethodDescriptor yX8_bestFlick.desc).map (fun d => d.parameters.length) = some 1 := by decide +kernel
def f_X8_bestFlick_b115 (x1 : Int32) (x4_46 : Int32) (x5_56 : Int32) (z0_98 : Int32) (z0_115 : Int32) (V75 : cr_Hp) : Option ((Int32 × Int32 × Int32 × cr_Hp) ⊕ (Int32 × Int32 × cr_Hp)) :=
  cr_bd (f_X8_copies 161 160 (0 : Int32) (0 : Int32) V75) (fun (V126 : cr_Hp) => some (.inl (z0_98, z0_115, (x5_56 + (1 : Int32)), V126)))
set_option maxRecDepth 100000 in
set_option maxHeartbeats 4000000 in
theorem t_X8_bestFlick_b115 {p : Program} {l : Launch} {e : Env} {s : State} {m : MethodId} {args : Array Value} {below : List Frame} {meth : Method} {c : Code} {w : cr_Wd} {Q : State → Prop} (X : cr_Cx w RX8 (Cond.code yX8_bestFlick cX8_bestFlick 6 (some .int)) cX8_bestFlick 6 p s m args meth c) (x1 : Int32) (x4_46 : Int32) (x5_56 : Int32) (z0_98 : Int32) (z0_115 : Int32) (V75 : cr_Hp)  (x : (Int32 × Int32 × Int32 × cr_Hp) ⊕ (Int32 × Int32 × cr_Hp)) (h : f_X8_bestFlick_b115 x1 x4_46 x5_56 z0_98 z0_115 V75 = some x) (kl : ∀ (x2_56 : Int32) (x3_56 : Int32) (x5_56 : Int32) (V_l56 : cr_Hp), x = .inl (x2_56, x3_56, x5_56, V_l56) → cr_J w 6 p l e rm_X8_bestFlick s m args below meth c 0 0 Q V_l56 56 [(0, .ref (w.1 159)), (1, .int x1), (2, .int x2_56), (3, .int x3_56), (4, .int x4_46), (5, .int x5_56)] []) (kr135 : ∀ (u2_56_135 : Int32) (u3_56_135 : Int32) (V_e56_135 : cr_Hp), x = .inr (u2_56_135, u3_56_135, V_e56_135) → cr_J w 6 p l e rm_X8_bestFlick s m args below meth c 0 0 Q V_e56_135 135 [(0, .ref (w.1 159)), (1, .int x1), (2, .int u2_56_135), (3, .int u3_56_135), (4, .int x4_46)] []) : cr_J w 6 p l e rm_X8_bestFlick s m args below meth c 0 0 Q V75 115 [(0, .ref (w.1 159)), (1, .int x1), (2, .int z0_98), (4, .int x4_46), (5, .int x5_56)] [.int z0_115] := by
  unfold f_X8_bestFlick_b115 at h
  refine jr_istore_n X.c (lv2 := [(3, .int z0_115), (0, .ref (w.1 159)), (1, .int x1), (2, .int z0_98), (4, .int x4_46), (5, .int x5_56)]) dX8_bestFlick_115 rfl (by decide) rfl ?_
  refine jr_aload_n X.c dX8_bestFlick_116 rfl 1 rfl ?_
  refine jr_get X.c (ci := 8) (C := RX8) (T := TX8) (N := 22) (k := 1) rfl cr_in8 (by decide) ((cr_row_159 w) _) rfl (by decide) fl_X8_13 dX8_bestFlick_117 ?_
  refine jr_iconst X.c (v := (0 : Int32)) dX8_bestFlick_120 (by decide) ?_
  refine jr_aload_n X.c dX8_bestFlick_121 rfl 1 rfl ?_
  refine jr_get X.c (ci := 8) (C := RX8) (T := TX8) (N := 22) (k := 0) rfl cr_in8 (by decide) ((cr_row_159 w) _) rfl (by decide) fl_X8_7 dX8_bestFlick_122 ?_
  refine jr_iconst X.c (v := (0 : Int32)) dX8_bestFlick_125 (by decide) ?_
  obtain ⟨V126, hr126, h⟩ := cr_bd_s h
  refine jc_Sv X.c (As := [.ref (w.1 161), .int (0 : Int32), .ref (w.1 160), .int (0 : Int32)]) (V1 := V126) 4 (m_X8_copies l w V75 161 160 (0 : Int32) (0 : Int32) (by decide) (by decide) V126 hr126) ⟨rfl, rfl⟩ ml_X8_35 st_X8_copies in_X8 cd_X8_copies hd_X8_copies ⟨Nat.le_of_ble_eq_true rfl, Nat.le_of_ble_eq_true rfl⟩ ⟨Nat.le_of_ble_eq_true rfl, Nat.le_of_ble_eq_true rfl⟩ rfl (Nat.le_of_ble_eq_true rfl) rfl dX8_bestFlick_126 ?_
  refine jr_iinc X.c (v := (x5_56 + (1 : Int32))) (lv2 := [(5, .int (x5_56 + (1 : Int32))), (3, .int z0_115), (0, .ref (w.1 159)), (1, .int x1), (2, .int z0_98), (4, .int x4_46)]) dX8_bestFlick_129 5 rfl (by rfl) (by decide) rfl ?_
  refine jr_goto X.c 56 dX8_bestFlick_132 (by decide) ?_
  cases h
  refine jr_sub [2, 3, 4, 1, 5, 0] rfl ?_
  exact kl z0_98 z0_115 (x5_56 + (1 : Int32)) V126 rfl
def f_X8_bestFlick_b98 (x1 : Int32) (x4_46 : Int32) (x3_56 : Int32) (x5_56 : Int32) (z0_98 : Int32) (V75 : cr_Hp) : Option ((Int32 × Int32 × Int32 × cr_Hp) ⊕ (Int32 × Int32 × cr_Hp)) :=
  if (V75 159 14) ≤ x3_56 then (f_X8_bestFlick_b115 x1 x4_46 x5_56 z0_98 x3_56 V75) else (f_X8_bestFlick_b115 x1 x4_46 x5_56 z0_98 (V75 159 14) V75)
set_option maxRecDepth 100000 in
set_option maxHeartbeats 4000000 in
theorem t_X8_bestFlick_b98 {p : Program} {l : Launch} {e : Env} {s : State} {m : MethodId} {args : Array Value} {below : List Frame} {meth : Method} {c : Code} {w : cr_Wd} {Q : State → Prop} (X : cr_Cx w RX8 (Cond.code yX8_bestFlick cX8_bestFlick 6 (some .int)) cX8_bestFlick 6 p s m args meth c) (x1 : Int32) (x4_46 : Int32) (x3_56 : Int32) (x5_56 : Int32) (z0_98 : Int32) (V75 : cr_Hp)  (x : (Int32 × Int32 × Int32 × cr_Hp) ⊕ (Int32 × Int32 × cr_Hp)) (h : f_X8_bestFlick_b98 x1 x4_46 x3_56 x5_56 z0_98 V75 = some x) (kl : ∀ (x2_56 : Int32) (x3_56 : Int32) (x5_56 : Int32) (V_l56 : cr_Hp), x = .inl (x2_56, x3_56, x5_56, V_l56) → cr_J w 6 p l e rm_X8_bestFlick s m args below meth c 0 0 Q V_l56 56 [(0, .ref (w.1 159)), (1, .int x1), (2, .int x2_56), (3, .int x3_56), (4, .int x4_46), (5, .int x5_56)] []) (kr135 : ∀ (u2_56_135 : Int32) (u3_56_135 : Int32) (V_e56_135 : cr_Hp), x = .inr (u2_56_135, u3_56_135, V_e56_135) → cr_J w 6 p l e rm_X8_bestFlick s m args below meth c 0 0 Q V_e56_135 135 [(0, .ref (w.1 159)), (1, .int x1), (2, .int u2_56_135), (3, .int u3_56_135), (4, .int x4_46)] []) : cr_J w 6 p l e rm_X8_bestFlick s m args below meth c 0 0 Q V75 98 [(0, .ref (w.1 159)), (1, .int x1), (3, .int x3_56), (4, .int x4_46), (5, .int x5_56)] [.int z0_98] := by
  unfold f_X8_bestFlick_b98 at h
  refine jr_istore_n X.c (lv2 := [(2, .int z0_98), (0, .ref (w.1 159)), (1, .int x1), (3, .int x3_56), (4, .int x4_46), (5, .int x5_56)]) dX8_bestFlick_98 rfl (by decide) rfl ?_
  refine jr_aload_n X.c dX8_bestFlick_99 rfl 1 rfl ?_
  refine jr_get X.c (ci := 8) (C := RX8) (T := TX8) (N := 22) (k := 14) rfl cr_in8 (by decide) ((cr_row_159 w) _) rfl (by decide) fl_X8_92 dX8_bestFlick_100 ?_
  refine jr_iload_n X.c dX8_bestFlick_103 rfl 3 rfl ?_
  refine jr_icmp_le X.c 114 dX8_bestFlick_104 (by decide) (fun q104 => ?_) (fun q104 => ?_)
  · replace h := cr_if_t q104 h
    refine jr_iload_n X.c dX8_bestFlick_114 rfl 3 rfl ?_
    refine jr_sub [1, 2, 0, 4, 5] rfl ?_
    exact t_X8_bestFlick_b115 X x1 x4_46 x5_56 z0_98 x3_56 V75  x h kl kr135
  · replace h := cr_if_f q104 h
    refine jr_aload_n X.c dX8_bestFlick_107 rfl 1 rfl ?_
    refine jr_get X.c (ci := 8) (C := RX8) (T := TX8) (N := 22) (k := 14) rfl cr_in8 (by decide) ((cr_row_159 w) _) rfl (by decide) fl_X8_92 dX8_bestFlick_108 ?_
    refine jr_goto X.c 115 dX8_bestFlick_111 (by decide) ?_
    refine jr_sub [1, 2, 0, 4, 5] rfl ?_
    exact t_X8_bestFlick_b115 X x1 x4_46 x5_56 z0_98 (V75 159 14) V75  x h kl kr135
def f_X8_bestFlick_l56 (x1 : Int32) (x4_46 : Int32) (x2_56 : Int32) (x3_56 : Int32) (x5_56 : Int32) (V_l56 : cr_Hp) : Option ((Int32 × Int32 × Int32 × cr_Hp) ⊕ (Int32 × Int32 × cr_Hp)) :=
  if (8 : Int32) ≤ x5_56 then (some (.inr (x2_56, x3_56, V_l56))) else (cr_bd (f_X8_part x1 (3 : Int32) V_l56) (fun (r67 : Int32) => cr_bd (f_X8_flicks r67 x1 x5_56 x4_46 V_l56) (fun (V75 : cr_Hp) => if (V75 159 14) ≤ x3_56 then (f_X8_bestFlick_b98 x1 x4_46 x3_56 x5_56 x2_56 V75) else (f_X8_bestFlick_b98 x1 x4_46 x3_56 x5_56 (((100 : Int32) * x5_56) + x4_46) V75))))
set_option maxRecDepth 100000 in
set_option maxHeartbeats 4000000 in
theorem t_X8_bestFlick_l56 {p : Program} {l : Launch} {e : Env} {s : State} {m : MethodId} {args : Array Value} {below : List Frame} {meth : Method} {c : Code} {w : cr_Wd} {Q : State → Prop} (X : cr_Cx w RX8 (Cond.code yX8_bestFlick cX8_bestFlick 6 (some .int)) cX8_bestFlick 6 p s m args meth c) (x1 : Int32) (x4_46 : Int32) (x2_56 : Int32) (x3_56 : Int32) (x5_56 : Int32) (V_l56 : cr_Hp)  (x : (Int32 × Int32 × Int32 × cr_Hp) ⊕ (Int32 × Int32 × cr_Hp)) (h : f_X8_bestFlick_l56 x1 x4_46 x2_56 x3_56 x5_56 V_l56 = some x) (kl : ∀ (x2_56 : Int32) (x3_56 : Int32) (x5_56 : Int32) (V_l56 : cr_Hp), x = .inl (x2_56, x3_56, x5_56, V_l56) → cr_J w 6 p l e rm_X8_bestFlick s m args below meth c 0 0 Q V_l56 56 [(0, .ref (w.1 159)), (1, .int x1), (2, .int x2_56), (3, .int x3_56), (4, .int x4_46), (5, .int x5_56)] []) (kr135 : ∀ (u2_56_135 : Int32) (u3_56_135 : Int32) (V_e56_135 : cr_Hp), x = .inr (u2_56_135, u3_56_135, V_e56_135) → cr_J w 6 p l e rm_X8_bestFlick s m args below meth c 0 0 Q V_e56_135 135 [(0, .ref (w.1 159)), (1, .int x1), (2, .int u2_56_135), (3, .int u3_56_135), (4, .int x4_46)] []) : cr_J w 6 p l e rm_X8_bestFlick s m args below meth c 0 0 Q V_l56 56 [(0, .ref (w.1 159)), (1, .int x1), (2, .int x2_56), (3, .int x3_56), (4, .int x4_46), (5, .int x5_56)] [] := by
  unfold f_X8_bestFlick_l56 at h
  refine jr_iload X.c dX8_bestFlick_56 5 rfl ?_
  refine jr_bipush X.c (v := (8 : Int32)) dX8_bestFlick_58 (by decide) ?_
  refine jr_icmp_ge X.c 135 dX8_bestFlick_60 (by decide) (fun q60 => ?_) (fun q60 => ?_)
  · replace h := cr_if_t q60 h
    cases h
    refine jr_sub [0, 1, 2, 3, 4] rfl ?_
    exact kr135 x2_56 x3_56 V_l56 rfl
  · replace h := cr_if_f q60 h
    refine jr_aload_n X.c dX8_bestFlick_63 rfl 0 rfl ?_
    refine jr_aload_n X.c dX8_bestFlick_64 rfl 0 rfl ?_
    refine jr_iload_n X.c dX8_bestFlick_65 rfl 1 rfl ?_
    refine jr_iconst X.c (v := (3 : Int32)) dX8_bestFlick_66 (by decide) ?_
    obtain ⟨r67, hr67, h⟩ := cr_bd_s h
    refine jc_Vi X.c (As := [.int x1, .int (3 : Int32)]) (V1 := V_l56) (C := RX8) (T := TX8) (N := 22) (ci := 8) 2 (m_X8_part l w V_l56 x1 (3 : Int32)  r67 hr67) ⟨rfl, rfl⟩ ml_X8_43 im_X8_part sl_X8_part in_X8 cd_X8_part hd_X8_part ⟨Nat.le_of_ble_eq_true rfl, Nat.le_of_ble_eq_true rfl⟩ ⟨Nat.le_of_ble_eq_true rfl, Nat.le_of_ble_eq_true rfl⟩ rfl (Nat.le_of_ble_eq_true rfl) (by decide) ((cr_row_159 w) _) rfl rfl dX8_bestFlick_67 ?_
    refine jr_iload_n X.c dX8_bestFlick_70 rfl 1 rfl ?_
    refine jr_iload X.c dX8_bestFlick_71 5 rfl ?_
    refine jr_iload X.c dX8_bestFlick_73 4 rfl ?_
    obtain ⟨V75, hr75, h⟩ := cr_bd_s h
    refine jc_Vv X.c (As := [.int r67, .int x1, .int x5_56, .int x4_46]) (V1 := V75) (C := RX8) (T := TX8) (N := 22) (ci := 8) 4 (m_X8_flicks l w V_l56 r67 x1 x5_56 x4_46  V75 hr75) ⟨rfl, rfl⟩ ml_X8_105 im_X8_flicks sl_X8_flicks in_X8 cd_X8_flicks hd_X8_flicks ⟨Nat.le_of_ble_eq_true rfl, Nat.le_of_ble_eq_true rfl⟩ ⟨Nat.le_of_ble_eq_true rfl, Nat.le_of_ble_eq_true rfl⟩ rfl (Nat.le_of_ble_eq_true rfl) (by decide) ((cr_row_159 w) _) rfl rfl dX8_bestFlick_75 ?_
    refine jr_aload_n X.c dX8_bestFlick_78 rfl 0 rfl ?_
    refine jr_get X.c (ci := 8) (C := RX8) (T := TX8) (N := 22) (k := 14) rfl cr_in8 (by decide) ((cr_row_159 w) _) rfl (by decide) fl_X8_92 dX8_bestFlick_79 ?_
    refine jr_iload_n X.c dX8_bestFlick_82 rfl 3 rfl ?_
    refine jr_icmp_le X.c 97 dX8_bestFlick_83 (by decide) (fun q83 => ?_) (fun q83 => ?_)
    · replace h := cr_if_t q83 h
      refine jr_iload_n X.c dX8_bestFlick_97 rfl 2 rfl ?_
      refine jr_sub [0, 1, 3, 4, 5] rfl ?_
      exact t_X8_bestFlick_b98 X x1 x4_46 x3_56 x5_56 x2_56 V75  x h kl kr135
    · replace h := cr_if_f q83 h
      refine jr_bipush X.c (v := (100 : Int32)) dX8_bestFlick_86 (by decide) ?_
      refine jr_iload X.c dX8_bestFlick_88 5 rfl ?_
      refine jr_imul X.c dX8_bestFlick_90 ?_
      refine jr_iload X.c dX8_bestFlick_91 4 rfl ?_
      refine jr_iadd X.c dX8_bestFlick_93 ?_
      refine jr_goto X.c 98 dX8_bestFlick_94 (by decide) ?_
      refine jr_sub [0, 1, 3, 4, 5] rfl ?_
      exact t_X8_bestFlick_b98 X x1 x4_46 x3_56 x5_56 (((100 : Int32) * x5_56) + x4_46) V75  x h kl kr135
def f_X8_bestFlick_l46 (x1 : Int32) (x2_46 : Int32) (x3_46 : Int32) (x4_46 : Int32) (V_l46 : cr_Hp) : Option ((Int32 × Int32 × Int32 × cr_Hp) ⊕ (Int32 × cr_Hp)) :=
  if (40 : Int32) < x4_46 then (some (.inr (x2_46, V_l46))) else (cr_bd (cr_it (fun (q : Int32 × Int32 × Int32 × cr_Hp) => f_X8_bestFlick_l56 x1 x4_46 q.1 q.2.1 q.2.2.1 q.2.2.2) cr_FU (x2_46, x3_46, (0 : Int32), V_l46)) (cr_u3 (fun (u2_56_135 : Int32) (u3_56_135 : Int32) (V_e56_135 : cr_Hp) => some (.inl (u2_56_135, u3_56_135, (x4_46 + (1 : Int32)), V_e56_135)))))
set_option maxRecDepth 100000 in
set_option maxHeartbeats 4000000 in
theorem t_X8_bestFlick_l46 {p : Program} {l : Launch} {e : Env} {s : State} {m : MethodId} {args : Array Value} {below : List Frame} {meth : Method} {c : Code} {w : cr_Wd} {Q : State → Prop} (X : cr_Cx w RX8 (Cond.code yX8_bestFlick cX8_bestFlick 6 (some .int)) cX8_bestFlick 6 p s m args meth c) (x1 : Int32) (x2_46 : Int32) (x3_46 : Int32) (x4_46 : Int32) (V_l46 : cr_Hp)  (x : (Int32 × Int32 × Int32 × cr_Hp) ⊕ (Int32 × cr_Hp)) (h : f_X8_bestFlick_l46 x1 x2_46 x3_46 x4_46 V_l46 = some x) (kl : ∀ (x2_46 : Int32) (x3_46 : Int32) (x4_46 : Int32) (V_l46 : cr_Hp), x = .inl (x2_46, x3_46, x4_46, V_l46) → cr_J w 6 p l e rm_X8_bestFlick s m args below meth c 0 0 Q V_l46 46 [(0, .ref (w.1 159)), (1, .int x1), (2, .int x2_46), (3, .int x3_46), (4, .int x4_46)] []) (kr141 : ∀ (u2_46_141 : Int32) (V_e46_141 : cr_Hp), x = .inr (u2_46_141, V_e46_141) → cr_J w 6 p l e rm_X8_bestFlick s m args below meth c 0 0 Q V_e46_141 141 [(2, .int u2_46_141)] []) : cr_J w 6 p l e rm_X8_bestFlick s m args below meth c 0 0 Q V_l46 46 [(0, .ref (w.1 159)), (1, .int x1), (2, .int x2_46), (3, .int x3_46), (4, .int x4_46)] [] := by
  unfold f_X8_bestFlick_l46 at h
  refine jr_iload X.c dX8_bestFlick_46 4 rfl ?_
  refine jr_bipush X.c (v := (40 : Int32)) dX8_bestFlick_48 (by decide) ?_
  refine jr_icmp_gt X.c 141 dX8_bestFlick_50 (by decide) (fun q50 => ?_) (fun q50 => ?_)
  · replace h := cr_if_t q50 h
    cases h
    refine jr_sub [2] rfl ?_
    exact kr141 x2_46 V_l46 rfl
  · replace h := cr_if_f q50 h
    refine jr_iconst X.c (v := (0 : Int32)) dX8_bestFlick_53 (by decide) ?_
    refine jr_istore X.c (lv2 := [(5, .int (0 : Int32)), (0, .ref (w.1 159)), (1, .int x1), (2, .int x2_46), (3, .int x3_46), (4, .int x4_46)]) dX8_bestFlick_54 (by decide) rfl ?_
    obtain ⟨e56, he56, h⟩ := cr_bd_s h
    have kx135 : ∀ (u2_56_135 : Int32) (u3_56_135 : Int32) (V_e56_135 : cr_Hp), e56 = (u2_56_135, u3_56_135, V_e56_135) → cr_J w 6 p l e rm_X8_bestFlick s m args below meth c 0 0 Q V_e56_135 135 [(0, .ref (w.1 159)), (1, .int x1), (2, .int u2_56_135), (3, .int u3_56_135), (4, .int x4_46)] [] := by
      intro u2_56_135 u3_56_135 V_e56_135 qx
      rw [qx] at h
      try simp only [cr_sm, cr_u2, cr_u3, cr_u4, cr_u5, cr_u6] at h
      refine jr_iinc X.c (v := (x4_46 + (1 : Int32))) (lv2 := [(4, .int (x4_46 + (1 : Int32))), (0, .ref (w.1 159)), (1, .int x1), (2, .int u2_56_135), (3, .int u3_56_135)]) dX8_bestFlick_135 4 rfl (by rfl) (by decide) rfl ?_
      refine jr_goto X.c 46 dX8_bestFlick_138 (by decide) ?_
      cases h
      refine jr_sub [1, 2, 3, 4, 0] rfl ?_
      exact kl u2_56_135 u3_56_135 (x4_46 + (1 : Int32)) V_e56_135 rfl
    refine jr_sub [1, 2, 3, 4, 5, 0] rfl ?_
    refine cr_it_W (f := (fun (q : Int32 × Int32 × Int32 × cr_Hp) => f_X8_bestFlick_l56 x1 x4_46 q.1 q.2.1 q.2.2.1 q.2.2.2)) (P := fun (q : Int32 × Int32 × Int32 × cr_Hp) => cr_J w 6 p l e rm_X8_bestFlick s m args below meth c 0 0 Q q.2.2.2 56 [(0, .ref (w.1 159)), (1, .int x1), (2, .int q.1), (3, .int q.2.1), (4, .int x4_46), (5, .int q.2.2.1)] []) (K := fun z => z = e56) (fun q x hx kl kr => ?_) cr_FU (x2_46, x3_46, (0 : Int32), V_l46) e56 he56 rfl
    obtain ⟨x2_56, x3_56, x5_56, V_l56⟩ := q
    exact t_X8_bestFlick_l56 X x1 x4_46 x2_56 x3_56 x5_56 V_l56  x hx (fun x2_56 x3_56 x5_56 V_l56 ez => kl _ ez) (fun u2_56_135 u3_56_135 V_e56_135 ez => kx135 u2_56_135 u3_56_135 V_e56_135 ((kr _ ez).symm))
def f_X8_bestFlick (x1 : Int32) (V : cr_Hp) : Option (Int32 × cr_Hp) :=
  cr_bd (f_X8_isMarble x1 V) (fun (r2 : Int32) => if r2 = 0 then (some ((-1001 : Int32), V)) else (cr_bd (f_X8_isThere x1 V) (fun (r14 : Int32) => if r14 = 0 then (some ((-1003 : Int32), V)) else (cr_bd (f_X8_copies 160 161 (0 : Int32) (0 : Int32) V) (fun (V40 : cr_Hp) => cr_bd (cr_it (fun (q : Int32 × Int32 × Int32 × cr_Hp) => f_X8_bestFlick_l46 x1 q.1 q.2.1 q.2.2.1 q.2.2.2) cr_FU ((-1006 : Int32), (0 : Int32), (1 : Int32), V40)) (cr_u2 (fun (u2_46_141 : Int32) (V_e46_141 : cr_Hp) => some (u2_46_141, V_e46_141))))))))
set_option maxRecDepth 100000 in
set_option maxHeartbeats 4000000 in
theorem t_X8_bestFlick {p : Program} {l : Launch} {e : Env} {s : State} {m : MethodId} {args : Array Value} {below : List Frame} {meth : Method} {c : Code} {w : cr_Wd} (X : cr_Cx w RX8 (Cond.code yX8_bestFlick cX8_bestFlick 6 (some .int)) cX8_bestFlick 6 p s m args meth c) (x1 : Int32) (V : cr_Hp)  (hr0 : meth.sig.returnType = (some .int)) (x : Int32 × cr_Hp) (h : f_X8_bestFlick x1 V = some x) : cr_J w 6 p l e rm_X8_bestFlick s m args below meth c 0 0 (MQ below (cr_Qi w x.2 x.1) args s 0 0 (cr_A w)) V 0 [(0, .ref (w.1 159)), (1, .int x1)] [] := by
  unfold f_X8_bestFlick at h
  refine jr_aload_n X.c dX8_bestFlick_0 rfl 0 rfl ?_
  refine jr_iload_n X.c dX8_bestFlick_1 rfl 1 rfl ?_
  obtain ⟨r2, hr2, h⟩ := cr_bd_s h
  refine jc_Vi X.c (As := [.int x1]) (V1 := V) (C := RX8) (T := TX8) (N := 22) (ci := 8) 1 (m_X8_isMarble l w V x1  r2 hr2) ⟨rfl, rfl⟩ ml_X8_95 im_X8_isMarble sl_X8_isMarble in_X8 cd_X8_isMarble hd_X8_isMarble ⟨Nat.le_of_ble_eq_true rfl, Nat.le_of_ble_eq_true rfl⟩ ⟨Nat.le_of_ble_eq_true rfl, Nat.le_of_ble_eq_true rfl⟩ rfl (Nat.le_of_ble_eq_true rfl) (by decide) ((cr_row_159 w) _) rfl rfl dX8_bestFlick_2 ?_
  refine jr_if_ne X.c 12 dX8_bestFlick_5 (by decide) (fun q5 => ?_) (fun q5 => ?_)
  · replace h := cr_if_f q5 h
    refine jr_aload_n X.c dX8_bestFlick_12 rfl 0 rfl ?_
    refine jr_iload_n X.c dX8_bestFlick_13 rfl 1 rfl ?_
    obtain ⟨r14, hr14, h⟩ := cr_bd_s h
    refine jc_Vi X.c (As := [.int x1]) (V1 := V) (C := RX8) (T := TX8) (N := 22) (ci := 8) 1 (m_X8_isThere l w V x1  r14 hr14) ⟨rfl, rfl⟩ ml_X8_56 im_X8_isThere sl_X8_isThere in_X8 cd_X8_isThere hd_X8_isThere ⟨Nat.le_of_ble_eq_true rfl, Nat.le_of_ble_eq_true rfl⟩ ⟨Nat.le_of_ble_eq_true rfl, Nat.le_of_ble_eq_true rfl⟩ rfl (Nat.le_of_ble_eq_true rfl) (by decide) ((cr_row_159 w) _) rfl rfl dX8_bestFlick_14 ?_
    refine jr_if_ne X.c 24 dX8_bestFlick_17 (by decide) (fun q17 => ?_) (fun q17 => ?_)
    · replace h := cr_if_f q17 h
      refine jr_sipush X.c (v := (-1006 : Int32)) dX8_bestFlick_24 (by decide) ?_
      refine jr_istore_n X.c (lv2 := [(2, .int (-1006 : Int32)), (0, .ref (w.1 159)), (1, .int x1)]) dX8_bestFlick_27 rfl (by decide) rfl ?_
      refine jr_iconst X.c (v := (0 : Int32)) dX8_bestFlick_28 (by decide) ?_
      refine jr_istore_n X.c (lv2 := [(3, .int (0 : Int32)), (2, .int (-1006 : Int32)), (0, .ref (w.1 159)), (1, .int x1)]) dX8_bestFlick_29 rfl (by decide) rfl ?_
      refine jr_aload_n X.c dX8_bestFlick_30 rfl 2 rfl ?_
      refine jr_get X.c (ci := 8) (C := RX8) (T := TX8) (N := 22) (k := 0) rfl cr_in8 (by decide) ((cr_row_159 w) _) rfl (by decide) fl_X8_7 dX8_bestFlick_31 ?_
      refine jr_iconst X.c (v := (0 : Int32)) dX8_bestFlick_34 (by decide) ?_
      refine jr_aload_n X.c dX8_bestFlick_35 rfl 2 rfl ?_
      refine jr_get X.c (ci := 8) (C := RX8) (T := TX8) (N := 22) (k := 1) rfl cr_in8 (by decide) ((cr_row_159 w) _) rfl (by decide) fl_X8_13 dX8_bestFlick_36 ?_
      refine jr_iconst X.c (v := (0 : Int32)) dX8_bestFlick_39 (by decide) ?_
      obtain ⟨V40, hr40, h⟩ := cr_bd_s h
      refine jc_Sv X.c (As := [.ref (w.1 160), .int (0 : Int32), .ref (w.1 161), .int (0 : Int32)]) (V1 := V40) 4 (m_X8_copies l w V 160 161 (0 : Int32) (0 : Int32) (by decide) (by decide) V40 hr40) ⟨rfl, rfl⟩ ml_X8_35 st_X8_copies in_X8 cd_X8_copies hd_X8_copies ⟨Nat.le_of_ble_eq_true rfl, Nat.le_of_ble_eq_true rfl⟩ ⟨Nat.le_of_ble_eq_true rfl, Nat.le_of_ble_eq_true rfl⟩ rfl (Nat.le_of_ble_eq_true rfl) rfl dX8_bestFlick_40 ?_
      refine jr_iconst X.c (v := (1 : Int32)) dX8_bestFlick_43 (by decide) ?_
      refine jr_istore X.c (lv2 := [(4, .int (1 : Int32)), (3, .int (0 : Int32)), (2, .int (-1006 : Int32)), (0, .ref (w.1 159)), (1, .int x1)]) dX8_bestFlick_44 (by decide) rfl ?_
      obtain ⟨e46, he46, h⟩ := cr_bd_s h
      have kx141 : ∀ (u2_46_141 : Int32) (V_e46_141 : cr_Hp), e46 = (u2_46_141, V_e46_141) → cr_J w 6 p l e rm_X8_bestFlick s m args below meth c 0 0 (MQ below (cr_Qi w x.2 x.1) args s 0 0 (cr_A w)) V_e46_141 141 [(2, .int u2_46_141)] [] := by
        intro u2_46_141 V_e46_141 qx
        rw [qx] at h
        try simp only [cr_sm, cr_u2, cr_u3, cr_u4, cr_u5, cr_u6] at h
        refine jr_iload_n X.c dX8_bestFlick_141 rfl 0 rfl ?_
        cases h
        exact jr_iret X.c hr0 dX8_bestFlick_142
      refine jr_sub [3, 4, 2, 1, 0] rfl ?_
      refine cr_it_W (f := (fun (q : Int32 × Int32 × Int32 × cr_Hp) => f_X8_bestFlick_l46 x1 q.1 q.2.1 q.2.2.1 q.2.2.2)) (P := fun (q : Int32 × Int32 × Int32 × cr_Hp) => cr_J w 6 p l e rm_X8_bestFlick s m args below meth c 0 0 (MQ below (cr_Qi w x.2 x.1) args s 0 0 (cr_A w)) q.2.2.2 46 [(0, .ref (w.1 159)), (1, .int x1), (2, .int q.1), (3, .int q.2.1), (4, .int q.2.2.1)] []) (K := fun z => z = e46) (fun q x hx kl kr => ?_) cr_FU ((-1006 : Int32), (0 : Int32), (1 : Int32), V40) e46 he46 rfl
      obtain ⟨x2_46, x3_46, x4_46, V_l46⟩ := q
      exact t_X8_bestFlick_l46 X x1 x2_46 x3_46 x4_46 V_l46  x hx (fun x2_46 x3_46 x4_46 V_l46 ez => kl _ ez) (fun u2_46_141 V_e46_141 ez => kx141 u2_46_141 V_e46_141 ((kr _ ez).symm))
    · replace h := cr_if_t q17 h
      refine jr_sipush X.c (v := (-1003 : Int32)) dX8_bestFlick_20 (by decide) ?_
      cases h
      exact jr_iret X.c hr0 dX8_bestFlick_23
  · replace h := cr_if_t q5 h
    refine jr_sipush X.c (v := (-1001 : Int32)) dX8_bestFlick_8 (by decide) ?_
    cases h
    exact jr_iret X.c hr0 dX8_bestFlick_11
set_option maxRecDepth 100000 in
set_option maxHeartbeats 4000000 in
theorem m_X8_bestFlick (l : Launch) (w : cr_Wd) (V : cr_Hp) (x1 : Int32)  (x : Int32 × cr_Hp) (h : f_X8_bestFlick x1 V = some x) : Met l yX8_bestFlick (cr_wds yX8_bestFlick cX8_bestFlick 6 (some .int)) rm_X8_bestFlick (cr_Pc w V [.ref (w.1 159), .int x1]) (cr_Qi w x.2 x.1) 0 0 (cr_A w) := by
  refine cr_met (own := RX8) (lv := [(0, .ref (w.1 159)), (1, .int x1)]) (by decide +kernel) rfl (Nat.le_of_ble_eq_true rfl) rfl (fun p e s m args below meth c X hr0 => ?_)
  exact t_X8_bestFlick X x1 V  hr0 x h
