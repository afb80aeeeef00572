abbrev rm_X8_findError : Room := { frames := 4, cells := 0, slots := 0, locals := 89 }
theorem hd_X8_findError : yX8_findError.cls = RX8 ∧ yX8_findError.cls ≠ "java/lang/invoke/MethodHandle" ∧ yX8_findError.cls ≠ "java/lang/invoke/VarHandle" ∧ (parseMethodDescriptor yX8_findError.desc).map (fun d => d.parameters.length) = some 0 := by decide +kernel
def f_X8_findError_l5  (V_l5 : cr_Hp) : Option (cr_Hp ⊕ (cr_Hp ⊕ cr_Hp ⊕ cr_Hp)) :=
  cr_b2 (f_X8_readsItem  V_l5) (fun (r6 : Int32) (V6 : cr_Hp) => if r6 = 0 then (some (.inr (.inl V6))) else (if (V6 159 15) = (V6 159 5) then (some (.inr (.inr (.inl V6)))) else (cr_b2 (f_X8_isNext (59 : Int32) V6) (fun (r35 : Int32) (V35 : cr_Hp) => if r35 = 0 then (some (.inr (.inr (.inr V35)))) else (some (.inl V35))))))
set_option maxRecDepth 100000 in
set_option maxHeartbeats 4000000 in
theorem t_X8_findError_l5 {p : Program} {l : Launch} {e : Env} {s : State} {m : MethodId} {args : Array Value} {below : List Frame} {meth : Method} {c : Code} {w : cr_Wd} {Q : State → Prop} (X : cr_Cx w RX8 (Cond.code yX8_findError cX8_findError 1 (some .int)) cX8_findError 1 p s m args meth c)  (V_l5 : cr_Hp)  (x : cr_Hp ⊕ (cr_Hp ⊕ cr_Hp ⊕ cr_Hp)) (h : f_X8_findError_l5  V_l5 = some x) (kl : ∀ (V_l5 : cr_Hp), x = .inl V_l5 → cr_J w 1 p l e rm_X8_findError s m args below meth c 0 0 Q V_l5 5 [(0, .ref (w.1 159))] []) (kr12 : ∀ (V_e5_12 : cr_Hp), x = .inr (.inl V_e5_12) → cr_J w 1 p l e rm_X8_findError s m args below meth c 0 0 Q V_e5_12 12 [(0, .ref (w.1 159))] []) (kr28 : ∀ (V_e5_28 : cr_Hp), x = .inr (.inr (.inl V_e5_28)) → cr_J w 1 p l e rm_X8_findError s m args below meth c 0 0 Q V_e5_28 28 [] []) (kr41 : ∀ (V_e5_41 : cr_Hp), x = .inr (.inr (.inr V_e5_41)) → cr_J w 1 p l e rm_X8_findError s m args below meth c 0 0 Q V_e5_41 41 [(0, .ref (w.1 159))] []) : cr_J w 1 p l e rm_X8_findError s m args below meth c 0 0 Q V_l5 5 [(0, .ref (w.1 159))] [] := by
  unfold f_X8_findError_l5 at h
  refine jr_aload_n X.c dX8_findError_5 rfl 0 rfl ?_
  obtain ⟨r6, V6, hr6, h⟩ := cr_b2_s h
  refine jc_Vi X.c (As := []) (V1 := V6) (C := RX8) (T := TX8) (N := 22) (ci := 8) 0 (m_X8_readsItem l w V_l5   (r6, V6) hr6) ⟨rfl, rfl⟩ ml_X8_187 im_X8_readsItem sl_X8_readsItem in_X8 cd_X8_readsItem hd_X8_readsItem ⟨Nat.le_of_ble_eq_true rfl, Nat.le_of_ble_eq_true rfl⟩ ⟨Nat.le_of_ble_eq_true rfl, Nat.le_of_ble_eq_true rfl⟩ rfl (Nat.le_of_ble_eq_true rfl) (by decide) ((cr_row_159 w) _) rfl rfl dX8_findError_6 ?_
  refine jr_if_ne X.c 17 dX8_findError_9 (by decide) (fun q9 => ?_) (fun q9 => ?_)
  · replace h := cr_if_f q9 h
    refine jr_aload_n X.c dX8_findError_17 rfl 0 rfl ?_
    refine jr_get X.c (ci := 8) (C := RX8) (T := TX8) (N := 22) (k := 15) rfl cr_in8 (by decide) ((cr_row_159 w) _) rfl (by decide) fl_X8_154 dX8_findError_18 ?_
    refine jr_aload_n X.c dX8_findError_21 rfl 0 rfl ?_
    refine jr_get X.c (ci := 8) (C := RX8) (T := TX8) (N := 22) (k := 5) rfl cr_in8 (by decide) ((cr_row_159 w) _) rfl (by decide) fl_X8_151 dX8_findError_22 ?_
    refine jr_icmp_ne X.c 32 dX8_findError_25 (by decide) (fun q25 => ?_) (fun q25 => ?_)
    · replace h := cr_if_f q25 h
      refine jr_aload_n X.c dX8_findError_32 rfl 0 rfl ?_
      refine jr_bipush X.c (v := (59 : Int32)) dX8_findError_33 (by decide) ?_
      obtain ⟨r35, V35, hr35, h⟩ := cr_b2_s h
      refine jc_Vi X.c (As := [.int (59 : Int32)]) (V1 := V35) (C := RX8) (T := TX8) (N := 22) (ci := 8) 1 (m_X8_isNext l w V6 (59 : Int32)  (r35, V35) hr35) ⟨rfl, rfl⟩ ml_X8_175 im_X8_isNext sl_X8_isNext in_X8 cd_X8_isNext hd_X8_isNext ⟨Nat.le_of_ble_eq_true rfl, Nat.le_of_ble_eq_true rfl⟩ ⟨Nat.le_of_ble_eq_true rfl, Nat.le_of_ble_eq_true rfl⟩ rfl (Nat.le_of_ble_eq_true rfl) (by decide) ((cr_row_159 w) _) rfl rfl dX8_findError_35 ?_
      refine jr_if_ne X.c 5 dX8_findError_38 (by decide) (fun q38 => ?_) (fun q38 => ?_)
      · replace h := cr_if_f q38 h
        cases h
        refine jr_sub [0] rfl ?_
        exact kl V35 rfl
      · replace h := cr_if_t q38 h
        cases h
        refine jr_sub [0] rfl ?_
        exact kr41 V35 rfl
    · replace h := cr_if_t q25 h
      cases h
      refine jr_sub [] rfl ?_
      exact kr28 V6 rfl
  · replace h := cr_if_t q9 h
    cases h
    refine jr_sub [0] rfl ?_
    exact kr12 V6 rfl
def f_X8_findError  (V : cr_Hp) : Option (Int32 × cr_Hp) :=
  cr_lt (cr_pt V 159 15 (0 : Int32)) (fun (V2 : cr_Hp) => cr_bd (cr_it (fun (q : cr_Hp) => f_X8_findError_l5   q) cr_FU V2) (cr_sm (fun (V_e5_12 : cr_Hp) => some ((V_e5_12 159 15), V_e5_12)) (cr_sm (fun (V_e5_28 : cr_Hp) => some ((-1006 : Int32), V_e5_28)) (fun (V_e5_41 : cr_Hp) => some ((V_e5_41 159 15), V_e5_41)))))
set_option maxRecDepth 100000 in
set_option maxHeartbeats 4000000 in
theorem t_X8_findError {p : Program} {l : Launch} {e : Env} {s : State} {m : MethodId} {args : Array Value} {below : List Frame} {meth : Method} {c : Code} {w : cr_Wd} (X : cr_Cx w RX8 (Cond.code yX8_findError cX8_findError 1 (some .int)) cX8_findError 1 p s m args meth c)  (V : cr_Hp)  (hr0 : meth.sig.returnType = (some .int)) (x : Int32 × cr_Hp) (h : f_X8_findError  V = some x) : cr_J w 1 p l e rm_X8_findError s m args below meth c 0 0 (MQ below (cr_Qi w x.2 x.1) args s 0 0 (cr_A w)) V 0 [(0, .ref (w.1 159))] [] := by
  unfold f_X8_findError at h
  refine jr_aload_n X.c dX8_findError_0 rfl 0 rfl ?_
  refine jr_iconst X.c (v := (0 : Int32)) dX8_findError_1 (by decide) ?_
  obtain ⟨V2, eV2, h⟩ := cr_lt_s h
  refine jr_put X.c (ci := 8) (C := RX8) (T := TX8) (N := 22) (k := 15) rfl cr_in8 tyX8 tyX8_ok nmX8 (by decide) (cr_row_159 w) rfl (Nat.le_of_ble_eq_true rfl) (by decide) rfl rfl rfl fl_X8_154 dX8_findError_2 eV2 ?_
  obtain ⟨e5, he5, h⟩ := cr_bd_s h
  have kx12 : ∀ (V_e5_12 : cr_Hp), e5 = (.inl V_e5_12) → cr_J w 1 p l e rm_X8_findError s m args below meth c 0 0 (MQ below (cr_Qi w x.2 x.1) args s 0 0 (cr_A w)) V_e5_12 12 [(0, .ref (w.1 159))] [] := by
    intro V_e5_12 qx
    rw [qx] at h
    try simp only [cr_sm, cr_u2, cr_u3, cr_u4, cr_u5, cr_u6] at h
    refine jr_aload_n X.c dX8_findError_12 rfl 0 rfl ?_
    refine jr_get X.c (ci := 8) (C := RX8) (T := TX8) (N := 22) (k := 15) rfl cr_in8 (by decide) ((cr_row_159 w) _) rfl (by decide) fl_X8_154 dX8_findError_13 ?_
    cases h
    exact jr_iret X.c hr0 dX8_findError_16
  have kx28 : ∀ (V_e5_28 : cr_Hp), e5 = (.inr (.inl V_e5_28)) → cr_J w 1 p l e rm_X8_findError s m args below meth c 0 0 (MQ below (cr_Qi w x.2 x.1) args s 0 0 (cr_A w)) V_e5_28 28 [] [] := by
    intro V_e5_28 qx
    rw [qx] at h
    try simp only [cr_sm, cr_u2, cr_u3, cr_u4, cr_u5, cr_u6] at h
    refine jr_sipush X.c (v := (-1006 : Int32)) dX8_findError_28 (by decide) ?_
    cases h
    exact jr_iret X.c hr0 dX8_findError_31
  have kx41 : ∀ (V_e5_41 : cr_Hp), e5 = (.inr (.inr V_e5_41)) → cr_J w 1 p l e rm_X8_findError s m args below meth c 0 0 (MQ below (cr_Qi w x.2 x.1) args s 0 0 (cr_A w)) V_e5_41 41 [(0, .ref (w.1 159))] [] := by
    intro V_e5_41 qx
    rw [qx] at h
    try simp only [cr_sm, cr_u2, cr_u3, cr_u4, cr_u5, cr_u6] at h
    refine jr_aload_n X.c dX8_findError_41 rfl 0 rfl ?_
    refine jr_get X.c (ci := 8) (C := RX8) (T := TX8) (N := 22) (k := 15) rfl cr_in8 (by decide) ((cr_row_159 w) _) rfl (by decide) fl_X8_154 dX8_findError_42 ?_
    cases h
    exact jr_iret X.c hr0 dX8_findError_45
  refine jr_sub [0] rfl ?_
  refine cr_it_W (f := (fun (q : cr_Hp) => f_X8_findError_l5   q)) (P := fun (q : cr_Hp) => cr_J w 1 p l e rm_X8_findError s m args below meth c 0 0 (MQ below (cr_Qi w x.2 x.1) args s 0 0 (cr_A w)) q 5 [(0, .ref (w.1 159))] []) (K := fun z => z = e5) (fun q x hx kl kr => ?_) cr_FU V2 e5 he5 rfl
  obtain ⟨V_l5, rfl⟩ : ∃ z, z = q := ⟨q, rfl⟩
  exact t_X8_findError_l5 X  V_l5  x hx (fun V_l5 ez => kl _ ez) (fun V_e5_12 ez => kx12 V_e5_12 ((kr _ ez).symm)) (fun V_e5_28 ez => kx28 V_e5_28 ((kr _ ez).symm)) (fun V_e5_41 ez => kx41 V_e5_41 ((kr _ ez).symm))
set_option maxRecDepth 100000 in
set_option maxHeartbeats 4000000 in
theorem m_X8_findError (l : Launch) (w : cr_Wd) (V : cr_Hp)   (x : Int32 × cr_Hp) (h : f_X8_findError  V = some x) : Met l yX8_findError (cr_wds yX8_findError cX8_findError 1 (some .int)) rm_X8_findError (cr_Pc w V [.ref (w.1 159)]) (cr_Qi w x.2 x.1) 0 0 (cr_A w) := by
  refine cr_met (own := RX8) (lv := [(0, .ref (w.1 159))]) (by decide +kernel) rfl (Nat.le_of_ble_eq_true rfl) rfl (fun p e s m args below meth c X hr0 => ?_)
  exact t_X8_findError X  V  hr0 x h
abbrev rm_X8_syntaxError : Room := { frames := 5, cells := 0, slots := 0, locals := 109 }
theorem hd_X8_syntaxError : yX8_syntaxError.cls = RX8 ∧ yX8_syntaxError.cls ≠ "java/lang/invoke/MethodHandle" ∧ yX8_syntaxError.cls ≠ "java/lang/invoke/VarHandle" ∧ (parseMethodDescriptor yX8_syntaxError.desc).map (fun d => d.parameters.length) = some 0 := by decide +kernel
def f_X8_syntaxError  (V : cr_Hp) : Option (Int32 × cr_Hp) :=
  cr_b2 (f_X8_findError  V) (fun (r1 : Int32) (V1 : cr_Hp) => some (r1, V1))
set_option maxRecDepth 100000 in
set_option maxHeartbeats 4000000 in
theorem t_X8_syntaxError {p : Program} {l : Launch} {e : Env} {s : State} {m : MethodId} {args : Array Value} {below : List Frame} {meth : Method} {c : Code} {w : cr_Wd} (X : cr_Cx w RX8 (Cond.code yX8_syntaxError cX8_syntaxError 1 (some .int)) cX8_syntaxError 1 p s m args meth c)  (V : cr_Hp)  (hr0 : meth.sig.returnType = (some .int)) (x : Int32 × cr_Hp) (h : f_X8_syntaxError  V = some x) : cr_J w 1 p l e rm_X8_syntaxError s m args below meth c 0 0 (MQ below (cr_Qi w x.2 x.1) args s 0 0 (cr_A w)) V 0 [(0, .ref (w.1 159))] [] := by
  unfold f_X8_syntaxError at h
  refine jr_aload_n X.c dX8_syntaxError_0 rfl 0 rfl ?_
  obtain ⟨r1, V1, hr1, h⟩ := cr_b2_s h
  refine jc_Vi X.c (As := []) (V1 := V1) (C := RX8) (T := TX8) (N := 22) (ci := 8) 0 (m_X8_findError l w V   (r1, V1) hr1) ⟨rfl, rfl⟩ ml_X8_191 im_X8_findError sl_X8_findError in_X8 cd_X8_findError hd_X8_findError ⟨Nat.le_of_ble_eq_true rfl, Nat.le_of_ble_eq_true rfl⟩ ⟨Nat.le_of_ble_eq_true rfl, Nat.le_of_ble_eq_true rfl⟩ rfl (Nat.le_of_ble_eq_true rfl) (by decide) ((cr_row_159 w) _) rfl rfl dX8_syntaxError_1 ?_
  cases h
  exact jr_iret X.c hr0 dX8_syntaxError_4
set_option maxRecDepth 100000 in
set_option maxHeartbeats 4000000 in
theorem m_X8_syntaxError (l : Launch) (w : cr_Wd) (V : cr_Hp)   (x : Int32 × cr_Hp) (h : f_X8_syntaxError  V = some x) : Met l yX8_syntaxError (cr_wds yX8_syntaxError cX8_syntaxError 1 (some .int)) rm_X8_syntaxError (cr_Pc w V [.ref (w.1 159)]) (cr_Qi w x.2 x.1) 0 0 (cr_A w) := by
  refine cr_met (own := RX8) (lv := [(0, .ref (w.1 159))]) (by decide +kernel) rfl (Nat.le_of_ble_eq_true rfl) rfl (fun p e s m args below meth c X hr0 => ?_)
  exact t_X8_syntaxError X  V  hr0 x h
abbrev rm_X8_does : Room := { frames := 4, cells := 0, slots := 0, locals := 91 }
theorem hd_X8_does : yX8_does.cls = RX8 ∧ yX8_does.cls ≠ "java/lang/invoke/MethodHandle" ∧ yX8_does.cls ≠ "java/lang/invoke/VarHandle" ∧ (parseMethodDescriptor yX8_does.desc).map (fun d => d.parameters.length) = some 0 := by decide +kernel
def f_X8_does_b112 (z0_58 : Int32) (V_112 : cr_Hp) : Option (Int32 × cr_Hp) :=
  if z0_58 = 0 then (some ((1 : Int32), V_112)) else (some ((0 : Int32), V_112))
set_option maxRecDepth 100000 in
set_option maxHeartbeats 4000000 in
theorem t_X8_does_b112 {p : Program} {l : Launch} {e : Env} {s : State} {m : MethodId} {args : Array Value} {below : List Frame} {meth : Method} {c : Code} {w : cr_Wd} (X : cr_Cx w RX8 (Cond.code yX8_does cX8_does 3 (some .boolean)) cX8_does 3 p s m args meth c) (z0_58 : Int32) (V_112 : cr_Hp)  (hr0 : meth.sig.returnType = (some .boolean)) (x : Int32 × cr_Hp) (h : f_X8_does_b112 z0_58 V_112 = some x) : cr_J w 3 p l e rm_X8_does s m args below meth c 0 0 (MQ below (cr_Qi w x.2 x.1) args s 0 0 (cr_A w)) V_112 112 [(2, .int z0_58)] [] := by
  unfold f_X8_does_b112 at h
  refine jr_iload_n X.c dX8_does_112 rfl 0 rfl ?_
  refine jr_if_ne X.c 120 dX8_does_113 (by decide) (fun q113 => ?_) (fun q113 => ?_)
  · replace h := cr_if_f q113 h
    refine jr_iconst X.c (v := (0 : Int32)) dX8_does_120 (by decide) ?_
    cases h
    exact jr_zret X.c (r := (0 : Int32)) hr0 (by decide) dX8_does_121
  · replace h := cr_if_t q113 h
    refine jr_iconst X.c (v := (1 : Int32)) dX8_does_116 (by decide) ?_
    refine jr_goto X.c 121 dX8_does_117 (by decide) ?_
    cases h
    exact jr_zret X.c (r := (1 : Int32)) hr0 (by decide) dX8_does_121
def f_X8_does_b87 (z0_58 : Int32) (V : cr_Hp) : Option (Int32 × cr_Hp) :=
  if z0_58 = 0 then (cr_b2 (f_X8_puts (V 159 18) (V 159 19) (V 159 20) (V 159 21) V) (fun (r108 : Int32) (V108 : cr_Hp) => f_X8_does_b112 z0_58 V108)) else (f_X8_does_b112 z0_58 V)
set_option maxRecDepth 100000 in
set_option maxHeartbeats 4000000 in
theorem t_X8_does_b87 {p : Program} {l : Launch} {e : Env} {s : State} {m : MethodId} {args : Array Value} {below : List Frame} {meth : Method} {c : Code} {w : cr_Wd} (X : cr_Cx w RX8 (Cond.code yX8_does cX8_does 3 (some .boolean)) cX8_does 3 p s m args meth c) (z0_58 : Int32) (V : cr_Hp)  (hr0 : meth.sig.returnType = (some .boolean)) (x : Int32 × cr_Hp) (h : f_X8_does_b87 z0_58 V = some x) : cr_J w 3 p l e rm_X8_does s m args below meth c 0 0 (MQ below (cr_Qi w x.2 x.1) args s 0 0 (cr_A w)) V 87 [(0, .ref (w.1 159)), (2, .int z0_58)] [] := by
  unfold f_X8_does_b87 at h
  refine jr_iload_n X.c dX8_does_87 rfl 1 rfl ?_
  refine jr_if_ne X.c 112 dX8_does_88 (by decide) (fun q88 => ?_) (fun q88 => ?_)
  · replace h := cr_if_f q88 h
    refine jr_sub [1] rfl ?_
    exact t_X8_does_b112 X z0_58 V  hr0 x  h
  · replace h := cr_if_t q88 h
    refine jr_aload_n X.c dX8_does_91 rfl 0 rfl ?_
    refine jr_aload_n X.c dX8_does_92 rfl 0 rfl ?_
    refine jr_get X.c (ci := 8) (C := RX8) (T := TX8) (N := 22) (k := 18) rfl cr_in8 (by decide) ((cr_row_159 w) _) rfl (by decide) fl_X8_172 dX8_does_93 ?_
    refine jr_aload_n X.c dX8_does_96 rfl 0 rfl ?_
    refine jr_get X.c (ci := 8) (C := RX8) (T := TX8) (N := 22) (k := 19) rfl cr_in8 (by decide) ((cr_row_159 w) _) rfl (by decide) fl_X8_178 dX8_does_97 ?_
    refine jr_aload_n X.c dX8_does_100 rfl 0 rfl ?_
    refine jr_get X.c (ci := 8) (C := RX8) (T := TX8) (N := 22) (k := 20) rfl cr_in8 (by decide) ((cr_row_159 w) _) rfl (by decide) fl_X8_181 dX8_does_101 ?_
    refine jr_aload_n X.c dX8_does_104 rfl 0 rfl ?_
    refine jr_get X.c (ci := 8) (C := RX8) (T := TX8) (N := 22) (k := 21) rfl cr_in8 (by decide) ((cr_row_159 w) _) rfl (by decide) fl_X8_184 dX8_does_105 ?_
    obtain ⟨r108, V108, hr108, h⟩ := cr_b2_s h
    refine jc_Vi X.c (As := [.int (V 159 18), .int (V 159 19), .int (V 159 20), .int (V 159 21)]) (V1 := V108) (C := RX8) (T := TX8) (N := 22) (ci := 8) 4 (m_X8_puts l w V (V 159 18) (V 159 19) (V 159 20) (V 159 21)  (r108, V108) hr108) ⟨rfl, rfl⟩ ml_X8_119 im_X8_puts sl_X8_puts in_X8 cd_X8_puts hd_X8_puts ⟨Nat.le_of_ble_eq_true rfl, Nat.le_of_ble_eq_true rfl⟩ ⟨Nat.le_of_ble_eq_true rfl, Nat.le_of_ble_eq_true rfl⟩ rfl (Nat.le_of_ble_eq_true rfl) (by decide) ((cr_row_159 w) _) rfl rfl dX8_does_108 ?_
    refine jr_pop X.c dX8_does_111 rfl ?_
    refine jr_sub [1] rfl ?_
    exact t_X8_does_b112 X z0_58 V108  hr0 x  h
def f_X8_does_b58 (z0_14 : Int32) (z0_58 : Int32) (V : cr_Hp) : Option (Int32 × cr_Hp) :=
  if z0_58 = 0 then (if z0_14 = 0 then (f_X8_does_b87 z0_58 V) else (cr_b2 (f_X8_draws (V 159 18) (V 159 19) (V 159 20) V) (fun (r80 : Int32) (V80 : cr_Hp) => f_X8_does_b112 z0_58 V80))) else (f_X8_does_b87 z0_58 V)
set_option maxRecDepth 100000 in
set_option maxHeartbeats 4000000 in
theorem t_X8_does_b58 {p : Program} {l : Launch} {e : Env} {s : State} {m : MethodId} {args : Array Value} {below : List Frame} {meth : Method} {c : Code} {w : cr_Wd} (X : cr_Cx w RX8 (Cond.code yX8_does cX8_does 3 (some .boolean)) cX8_does 3 p s m args meth c) (z0_14 : Int32) (z0_58 : Int32) (V : cr_Hp)  (hr0 : meth.sig.returnType = (some .boolean)) (x : Int32 × cr_Hp) (h : f_X8_does_b58 z0_14 z0_58 V = some x) : cr_J w 3 p l e rm_X8_does s m args below meth c 0 0 (MQ below (cr_Qi w x.2 x.1) args s 0 0 (cr_A w)) V 58 [(0, .ref (w.1 159)), (1, .int z0_14)] [.int z0_58] := by
  unfold f_X8_does_b58 at h
  refine jr_istore_n X.c (lv2 := [(2, .int z0_58), (0, .ref (w.1 159)), (1, .int z0_14)]) dX8_does_58 rfl (by decide) rfl ?_
  refine jr_iload_n X.c dX8_does_59 rfl 0 rfl ?_
  refine jr_if_ne X.c 87 dX8_does_60 (by decide) (fun q60 => ?_) (fun q60 => ?_)
  · replace h := cr_if_f q60 h
    refine jr_sub [1, 0] rfl ?_
    exact t_X8_does_b87 X z0_58 V  hr0 x  h
  · replace h := cr_if_t q60 h
    refine jr_iload_n X.c dX8_does_63 rfl 2 rfl ?_
    refine jr_if_eq X.c 87 dX8_does_64 (by decide) (fun q64 => ?_) (fun q64 => ?_)
    · replace h := cr_if_t q64 h
      refine jr_sub [1, 0] rfl ?_
      exact t_X8_does_b87 X z0_58 V  hr0 x  h
    · replace h := cr_if_f q64 h
      refine jr_aload_n X.c dX8_does_67 rfl 1 rfl ?_
      refine jr_aload_n X.c dX8_does_68 rfl 1 rfl ?_
      refine jr_get X.c (ci := 8) (C := RX8) (T := TX8) (N := 22) (k := 18) rfl cr_in8 (by decide) ((cr_row_159 w) _) rfl (by decide) fl_X8_172 dX8_does_69 ?_
      refine jr_aload_n X.c dX8_does_72 rfl 1 rfl ?_
      refine jr_get X.c (ci := 8) (C := RX8) (T := TX8) (N := 22) (k := 19) rfl cr_in8 (by decide) ((cr_row_159 w) _) rfl (by decide) fl_X8_178 dX8_does_73 ?_
      refine jr_aload_n X.c dX8_does_76 rfl 1 rfl ?_
      refine jr_get X.c (ci := 8) (C := RX8) (T := TX8) (N := 22) (k := 20) rfl cr_in8 (by decide) ((cr_row_159 w) _) rfl (by decide) fl_X8_181 dX8_does_77 ?_
      obtain ⟨r80, V80, hr80, h⟩ := cr_b2_s h
      refine jc_Vi X.c (As := [.int (V 159 18), .int (V 159 19), .int (V 159 20)]) (V1 := V80) (C := RX8) (T := TX8) (N := 22) (ci := 8) 3 (m_X8_draws l w V (V 159 18) (V 159 19) (V 159 20)  (r80, V80) hr80) ⟨rfl, rfl⟩ ml_X8_126 im_X8_draws sl_X8_draws in_X8 cd_X8_draws hd_X8_draws ⟨Nat.le_of_ble_eq_true rfl, Nat.le_of_ble_eq_true rfl⟩ ⟨Nat.le_of_ble_eq_true rfl, Nat.le_of_ble_eq_true rfl⟩ rfl (Nat.le_of_ble_eq_true rfl) (by decide) ((cr_row_159 w) _) rfl rfl dX8_does_80 ?_
      refine jr_pop X.c dX8_does_83 rfl ?_
      refine jr_goto X.c 112 dX8_does_84 (by decide) ?_
      refine jr_sub [0] rfl ?_
      exact t_X8_does_b112 X z0_58 V80  hr0 x  h
def f_X8_does_b14 (z0_14 : Int32) (V : cr_Hp) : Option (Int32 × cr_Hp) :=
  if z0_14 = 0 then (cr_bd (f_X8_whyNotPut (V 159 18) (V 159 19) (V 159 20) (V 159 21) V) (fun (r55 : Int32) => f_X8_does_b58 z0_14 r55 V)) else (cr_bd (f_X8_whyNotDrawn (V 159 18) (V 159 19) (V 159 20) V) (fun (r32 : Int32) => f_X8_does_b58 z0_14 r32 V))
set_option maxRecDepth 100000 in
set_option maxHeartbeats 4000000 in
theorem t_X8_does_b14 {p : Program} {l : Launch} {e : Env} {s : State} {m : MethodId} {args : Array Value} {below : List Frame} {meth : Method} {c : Code} {w : cr_Wd} (X : cr_Cx w RX8 (Cond.code yX8_does cX8_does 3 (some .boolean)) cX8_does 3 p s m args meth c) (z0_14 : Int32) (V : cr_Hp)  (hr0 : meth.sig.returnType = (some .boolean)) (x : Int32 × cr_Hp) (h : f_X8_does_b14 z0_14 V = some x) : cr_J w 3 p l e rm_X8_does s m args below meth c 0 0 (MQ below (cr_Qi w x.2 x.1) args s 0 0 (cr_A w)) V 14 [(0, .ref (w.1 159))] [.int z0_14] := by
  unfold f_X8_does_b14 at h
  refine jr_istore_n X.c (lv2 := [(1, .int z0_14), (0, .ref (w.1 159))]) dX8_does_14 rfl (by decide) rfl ?_
  refine jr_iload_n X.c dX8_does_15 rfl 0 rfl ?_
  refine jr_if_eq X.c 38 dX8_does_16 (by decide) (fun q16 => ?_) (fun q16 => ?_)
  · replace h := cr_if_t q16 h
    refine jr_aload_n X.c dX8_does_38 rfl 1 rfl ?_
    refine jr_aload_n X.c dX8_does_39 rfl 1 rfl ?_
    refine jr_get X.c (ci := 8) (C := RX8) (T := TX8) (N := 22) (k := 18) rfl cr_in8 (by decide) ((cr_row_159 w) _) rfl (by decide) fl_X8_172 dX8_does_40 ?_
    refine jr_aload_n X.c dX8_does_43 rfl 1 rfl ?_
    refine jr_get X.c (ci := 8) (C := RX8) (T := TX8) (N := 22) (k := 19) rfl cr_in8 (by decide) ((cr_row_159 w) _) rfl (by decide) fl_X8_178 dX8_does_44 ?_
    refine jr_aload_n X.c dX8_does_47 rfl 1 rfl ?_
    refine jr_get X.c (ci := 8) (C := RX8) (T := TX8) (N := 22) (k := 20) rfl cr_in8 (by decide) ((cr_row_159 w) _) rfl (by decide) fl_X8_181 dX8_does_48 ?_
    refine jr_aload_n X.c dX8_does_51 rfl 1 rfl ?_
    refine jr_get X.c (ci := 8) (C := RX8) (T := TX8) (N := 22) (k := 21) rfl cr_in8 (by decide) ((cr_row_159 w) _) rfl (by decide) fl_X8_184 dX8_does_52 ?_
    obtain ⟨r55, hr55, h⟩ := cr_bd_s h
    refine jc_Vi X.c (As := [.int (V 159 18), .int (V 159 19), .int (V 159 20), .int (V 159 21)]) (V1 := V) (C := RX8) (T := TX8) (N := 22) (ci := 8) 4 (m_X8_whyNotPut l w V (V 159 18) (V 159 19) (V 159 20) (V 159 21)  r55 hr55) ⟨rfl, rfl⟩ ml_X8_115 im_X8_whyNotPut sl_X8_whyNotPut in_X8 cd_X8_whyNotPut hd_X8_whyNotPut ⟨Nat.le_of_ble_eq_true rfl, Nat.le_of_ble_eq_true rfl⟩ ⟨Nat.le_of_ble_eq_true rfl, Nat.le_of_ble_eq_true rfl⟩ rfl (Nat.le_of_ble_eq_true rfl) (by decide) ((cr_row_159 w) _) rfl rfl dX8_does_55 ?_
    refine jr_sub [1, 0] rfl ?_
    exact t_X8_does_b58 X z0_14 r55 V  hr0 x  h
  · replace h := cr_if_f q16 h
    refine jr_aload_n X.c dX8_does_19 rfl 1 rfl ?_
    refine jr_aload_n X.c dX8_does_20 rfl 1 rfl ?_
    refine jr_get X.c (ci := 8) (C := RX8) (T := TX8) (N := 22) (k := 18) rfl cr_in8 (by decide) ((cr_row_159 w) _) rfl (by decide) fl_X8_172 dX8_does_21 ?_
    refine jr_aload_n X.c dX8_does_24 rfl 1 rfl ?_
    refine jr_get X.c (ci := 8) (C := RX8) (T := TX8) (N := 22) (k := 19) rfl cr_in8 (by decide) ((cr_row_159 w) _) rfl (by decide) fl_X8_178 dX8_does_25 ?_
    refine jr_aload_n X.c dX8_does_28 rfl 1 rfl ?_
    refine jr_get X.c (ci := 8) (C := RX8) (T := TX8) (N := 22) (k := 20) rfl cr_in8 (by decide) ((cr_row_159 w) _) rfl (by decide) fl_X8_181 dX8_does_29 ?_
    obtain ⟨r32, hr32, h⟩ := cr_bd_s h
    refine jc_Vi X.c (As := [.int (V 159 18), .int (V 159 19), .int (V 159 20)]) (V1 := V) (C := RX8) (T := TX8) (N := 22) (ci := 8) 3 (m_X8_whyNotDrawn l w V (V 159 18) (V 159 19) (V 159 20)  r32 hr32) ⟨rfl, rfl⟩ ml_X8_122 im_X8_whyNotDrawn sl_X8_whyNotDrawn in_X8 cd_X8_whyNotDrawn hd_X8_whyNotDrawn ⟨Nat.le_of_ble_eq_true rfl, Nat.le_of_ble_eq_true rfl⟩ ⟨Nat.le_of_ble_eq_true rfl, Nat.le_of_ble_eq_true rfl⟩ rfl (Nat.le_of_ble_eq_true rfl) (by decide) ((cr_row_159 w) _) rfl rfl dX8_does_32 ?_
    refine jr_goto X.c 58 dX8_does_35 (by decide) ?_
    refine jr_sub [1, 0] rfl ?_
    exact t_X8_does_b58 X z0_14 r32 V  hr0 x  h
def f_X8_does  (V : cr_Hp) : Option (Int32 × cr_Hp) :=
  if (V 159 16) = (114 : Int32) then (f_X8_does_b14 (1 : Int32) V) else (f_X8_does_b14 (0 : Int32) V)
set_option maxRecDepth 100000 in
set_option maxHeartbeats 4000000 in
theorem t_X8_does {p : Program} {l : Launch} {e : Env} {s : State} {m : MethodId} {args : Array Value} {below : List Frame} {meth : Method} {c : Code} {w : cr_Wd} (X : cr_Cx w RX8 (Cond.code yX8_does cX8_does 3 (some .boolean)) cX8_does 3 p s m args meth c)  (V : cr_Hp)  (hr0 : meth.sig.returnType = (some .boolean)) (x : Int32 × cr_Hp) (h : f_X8_does  V = some x) : cr_J w 3 p l e rm_X8_does s m args below meth c 0 0 (MQ below (cr_Qi w x.2 x.1) args s 0 0 (cr_A w)) V 0 [(0, .ref (w.1 159))] [] := by
  unfold f_X8_does at h
  refine jr_aload_n X.c dX8_does_0 rfl 0 rfl ?_
  refine jr_get X.c (ci := 8) (C := RX8) (T := TX8) (N := 22) (k := 16) rfl cr_in8 (by decide) ((cr_row_159 w) _) rfl (by decide) fl_X8_166 dX8_does_1 ?_
  refine jr_bipush X.c (v := (114 : Int32)) dX8_does_4 (by decide) ?_
  refine jr_icmp_ne X.c 13 dX8_does_6 (by decide) (fun q6 => ?_) (fun q6 => ?_)
  · replace h := cr_if_f q6 h
    refine jr_iconst X.c (v := (0 : Int32)) dX8_does_13 (by decide) ?_
    refine jr_sub [0] rfl ?_
    exact t_X8_does_b14 X (0 : Int32) V  hr0 x  h
  · replace h := cr_if_t q6 h
    refine jr_iconst X.c (v := (1 : Int32)) dX8_does_9 (by decide) ?_
    refine jr_goto X.c 14 dX8_does_10 (by decide) ?_
    refine jr_sub [0] rfl ?_
    exact t_X8_does_b14 X (1 : Int32) V  hr0 x  h
set_option maxRecDepth 100000 in
set_option maxHeartbeats 4000000 in
theorem m_X8_does (l : Launch) (w : cr_Wd) (V : cr_Hp)   (x : Int32 × cr_Hp) (h : f_X8_does  V = some x) : Met l yX8_does (cr_wds yX8_does cX8_does 3 (some .boolean)) rm_X8_does (cr_Pc w V [.ref (w.1 159)]) (cr_Qi w x.2 x.1) 0 0 (cr_A w) := by
  refine cr_met (own := RX8) (lv := [(0, .ref (w.1 159))]) (by decide +kernel) rfl (Nat.le_of_ble_eq_true rfl) rfl (fun p e s m args below meth c X hr0 => ?_)
  exact t_X8_does X  V  hr0 x h
abbrev rm_X8_readItems : Room := { frames := 5, cells := 0, slots := 0, locals := 113 }
theorem hd_X8_readItems : yX8_readItems.cls = RX8 ∧ yX8_readItems.cls ≠ "java/lang/invoke/MethodHandle" ∧ yX8_readItems.cls ≠ "java/lang/invoke/VarHandle" ∧ (parseMethodDescriptor yX8_readItems.desc).map (fun d => d.parameters.length) = some 0 := by decide +kernel
def f_X8_readItems_l27 (x1_27 : Int32) (x2_27 : Int32) (V_l27 : cr_Hp) : Option ((Int32 × Int32 × cr_Hp) ⊕ (Int32 × cr_Hp)) :=
  if x2_27 = 0 then (some (.inr (x1_27, V_l27))) else (if (V_l27 159 5) ≤ (V_l27 159 15) then (some (.inr (x1_27, V_l27))) else (cr_b2 (f_X8_readsItem  V_l27) (fun (r43 : Int32) (V43 : cr_Hp) => cr_b2 (f_X8_isNext (59 : Int32) V43) (fun (r50 : Int32) (V50 : cr_Hp) => cr_b2 (f_X8_does  V50) (fun (r55 : Int32) (V55 : cr_Hp) => if r55 = 0 then (some (.inl ((x1_27 + (0 : Int32)), r55, V55))) else (some (.inl ((x1_27 + (1 : Int32)), r55, V55))))))))
set_option maxRecDepth 100000 in
set_option maxHeartbeats 4000000 in
theorem t_X8_readItems_l27 {p : Program} {l : Launch} {e : Env} {s : State} {m : MethodId} {args : Array Value} {below : List Frame} {meth : Method} {c : Code} {w : cr_Wd} {Q : State → Prop} (X : cr_Cx w RX8 (Cond.code yX8_readItems cX8_readItems 3 (some .int)) cX8_readItems 3 p s m args meth c) (x1_27 : Int32) (x2_27 : Int32) (V_l27 : cr_Hp)  (x : (Int32 × Int32 × cr_Hp) ⊕ (Int32 × cr_Hp)) (h : f_X8_readItems_l27 x1_27 x2_27 V_l27 = some x) (kl : ∀ (x1_27 : Int32) (x2_27 : Int32) (V_l27 : cr_Hp), x = .inl (x1_27, x2_27, V_l27) → cr_J w 3 p l e rm_X8_readItems s m args below meth c 0 0 Q V_l27 27 [(0, .ref (w.1 159)), (1, .int x1_27), (2, .int x2_27)] []) (kr74 : ∀ (u1_27_74 : Int32) (V_e27_74 : cr_Hp), x = .inr (u1_27_74, V_e27_74) → cr_J w 3 p l e rm_X8_readItems s m args below meth c 0 0 Q V_e27_74 74 [(0, .ref (w.1 159)), (1, .int u1_27_74)] []) : cr_J w 3 p l e rm_X8_readItems s m args below meth c 0 0 Q V_l27 27 [(0, .ref (w.1 159)), (1, .int x1_27), (2, .int x2_27)] [] := by
  unfold f_X8_readItems_l27 at h
  refine jr_iload_n X.c dX8_readItems_27 rfl 2 rfl ?_
  refine jr_if_eq X.c 74 dX8_readItems_28 (by decide) (fun q28 => ?_) (fun q28 => ?_)
  · replace h := cr_if_t q28 h
    cases h
    refine jr_sub [0, 1] rfl ?_
    exact kr74 x1_27 V_l27 rfl
  · replace h := cr_if_f q28 h
    refine jr_aload_n X.c dX8_readItems_31 rfl 0 rfl ?_
    refine jr_get X.c (ci := 8) (C := RX8) (T := TX8) (N := 22) (k := 15) rfl cr_in8 (by decide) ((cr_row_159 w) _) rfl (by decide) fl_X8_154 dX8_readItems_32 ?_
    refine jr_aload_n X.c dX8_readItems_35 rfl 0 rfl ?_
    refine jr_get X.c (ci := 8) (C := RX8) (T := TX8) (N := 22) (k := 5) rfl cr_in8 (by decide) ((cr_row_159 w) _) rfl (by decide) fl_X8_151 dX8_readItems_36 ?_
    refine jr_icmp_ge X.c 74 dX8_readItems_39 (by decide) (fun q39 => ?_) (fun q39 => ?_)
    · replace h := cr_if_t q39 h
      cases h
      refine jr_sub [0, 1] rfl ?_
      exact kr74 x1_27 V_l27 rfl
    · replace h := cr_if_f q39 h
      refine jr_aload_n X.c dX8_readItems_42 rfl 0 rfl ?_
      obtain ⟨r43, V43, hr43, h⟩ := cr_b2_s h
      refine jc_Vi X.c (As := []) (V1 := V43) (C := RX8) (T := TX8) (N := 22) (ci := 8) 0 (m_X8_readsItem l w V_l27   (r43, V43) hr43) ⟨rfl, rfl⟩ ml_X8_187 im_X8_readsItem sl_X8_readsItem in_X8 cd_X8_readsItem hd_X8_readsItem ⟨Nat.le_of_ble_eq_true rfl, Nat.le_of_ble_eq_true rfl⟩ ⟨Nat.le_of_ble_eq_true rfl, Nat.le_of_ble_eq_true rfl⟩ rfl (Nat.le_of_ble_eq_true rfl) (by decide) ((cr_row_159 w) _) rfl rfl dX8_readItems_43 ?_
      refine jr_pop X.c dX8_readItems_46 rfl ?_
      refine jr_aload_n X.c dX8_readItems_47 rfl 0 rfl ?_
      refine jr_bipush X.c (v := (59 : Int32)) dX8_readItems_48 (by decide) ?_
      obtain ⟨r50, V50, hr50, h⟩ := cr_b2_s h
      refine jc_Vi X.c (As := [.int (59 : Int32)]) (V1 := V50) (C := RX8) (T := TX8) (N := 22) (ci := 8) 1 (m_X8_isNext l w V43 (59 : Int32)  (r50, V50) hr50) ⟨rfl, rfl⟩ ml_X8_175 im_X8_isNext sl_X8_isNext in_X8 cd_X8_isNext hd_X8_isNext ⟨Nat.le_of_ble_eq_true rfl, Nat.le_of_ble_eq_true rfl⟩ ⟨Nat.le_of_ble_eq_true rfl, Nat.le_of_ble_eq_true rfl⟩ rfl (Nat.le_of_ble_eq_true rfl) (by decide) ((cr_row_159 w) _) rfl rfl dX8_readItems_50 ?_
      refine jr_pop X.c dX8_readItems_53 rfl ?_
      refine jr_aload_n X.c dX8_readItems_54 rfl 0 rfl ?_
      obtain ⟨r55, V55, hr55, h⟩ := cr_b2_s h
      refine jc_Vi X.c (As := []) (V1 := V55) (C := RX8) (T := TX8) (N := 22) (ci := 8) 0 (m_X8_does l w V50   (r55, V55) hr55) ⟨rfl, rfl⟩ ml_X8_194 im_X8_does sl_X8_does in_X8 cd_X8_does hd_X8_does ⟨Nat.le_of_ble_eq_true rfl, Nat.le_of_ble_eq_true rfl⟩ ⟨Nat.le_of_ble_eq_true rfl, Nat.le_of_ble_eq_true rfl⟩ rfl (Nat.le_of_ble_eq_true rfl) (by decide) ((cr_row_159 w) _) rfl rfl dX8_readItems_55 ?_
      refine jr_istore_n X.c (lv2 := [(2, .int r55), (0, .ref (w.1 159)), (1, .int x1_27)]) dX8_readItems_58 rfl (by decide) rfl ?_
      refine jr_iload_n X.c dX8_readItems_59 rfl 2 rfl ?_
      refine jr_iload_n X.c dX8_readItems_60 rfl 0 rfl ?_
      refine jr_if_eq X.c 68 dX8_readItems_61 (by decide) (fun q61 => ?_) (fun q61 => ?_)
      · replace h := cr_if_t q61 h
        refine jr_iconst X.c (v := (0 : Int32)) dX8_readItems_68 (by decide) ?_
        refine jr_iadd X.c dX8_readItems_69 ?_
        refine jr_istore_n X.c (lv2 := [(1, .int (x1_27 + (0 : Int32))), (2, .int r55), (0, .ref (w.1 159))]) dX8_readItems_70 rfl (by decide) rfl ?_
        refine jr_goto X.c 27 dX8_readItems_71 (by decide) ?_
        cases h
        refine jr_sub [2, 0, 1] rfl ?_
        exact kl (x1_27 + (0 : Int32)) r55 V55 rfl
      · replace h := cr_if_f q61 h
        refine jr_iconst X.c (v := (1 : Int32)) dX8_readItems_64 (by decide) ?_
        refine jr_goto X.c 69 dX8_readItems_65 (by decide) ?_
        refine jr_iadd X.c dX8_readItems_69 ?_
        refine jr_istore_n X.c (lv2 := [(1, .int (x1_27 + (1 : Int32))), (2, .int r55), (0, .ref (w.1 159))]) dX8_readItems_70 rfl (by decide) rfl ?_
        refine jr_goto X.c 27 dX8_readItems_71 (by decide) ?_
        cases h
        refine jr_sub [2, 0, 1] rfl ?_
        exact kl (x1_27 + (1 : Int32)) r55 V55 rfl
def f_X8_readItems  (V : cr_Hp) : Option (Int32 × cr_Hp) :=
  cr_b2 (f_X8_findError  V) (fun (r1 : Int32) (V1 : cr_Hp) => if r1 = (-1006 : Int32) then (cr_bd (f_X8_record  V1) (fun (V15 : cr_Hp) => cr_lt (cr_pt V15 159 15 (0 : Int32)) (fun (V22 : cr_Hp) => cr_bd (cr_it (fun (q : Int32 × Int32 × cr_Hp) => f_X8_readItems_l27  q.1 q.2.1 q.2.2) cr_FU ((0 : Int32), (1 : Int32), V22)) (cr_u2 (fun (u1_27_74 : Int32) (V_e27_74 : cr_Hp) => cr_lt (cr_pt V_e27_74 159 5 (0 : Int32)) (fun (V76 : cr_Hp) => some (u1_27_74, V76))))))) else (some ((-1005 : Int32), V1)))
set_option maxRecDepth 100000 in
set_option maxHeartbeats 4000000 in
theorem t_X8_readItems {p : Program} {l : Launch} {e : Env} {s : State} {m : MethodId} {args : Array Value} {below : List Frame} {meth : Method} {c : Code} {w : cr_Wd} (X : cr_Cx w RX8 (Cond.code yX8_readItems cX8_readItems 3 (some .int)) cX8_readItems 3 p s m args meth c)  (V : cr_Hp)  (hr0 : meth.sig.returnType = (some .int)) (x : Int32 × cr_Hp) (h : f_X8_readItems  V = some x) : cr_J w 3 p l e rm_X8_readItems s m args below meth c 0 0 (MQ below (cr_Qi w x.2 x.1) args s 0 0 (cr_A w)) V 0 [(0, .ref (w.1 159))] [] := by
  unfold f_X8_readItems at h
  refine jr_aload_n X.c dX8_readItems_0 rfl 0 rfl ?_
  obtain ⟨r1, V1, hr1, h⟩ := cr_b2_s h
  refine jc_Vi X.c (As := []) (V1 := V1) (C := RX8) (T := TX8) (N := 22) (ci := 8) 0 (m_X8_findError l w V   (r1, V1) hr1) ⟨rfl, rfl⟩ ml_X8_191 im_X8_findError sl_X8_findError in_X8 cd_X8_findError hd_X8_findError ⟨Nat.le_of_ble_eq_true rfl, Nat.le_of_ble_eq_true rfl⟩ ⟨Nat.le_of_ble_eq_true rfl, Nat.le_of_ble_eq_true rfl⟩ rfl (Nat.le_of_ble_eq_true rfl) (by decide) ((cr_row_159 w) _) rfl rfl dX8_readItems_1 ?_
  refine jr_sipush X.c (v := (-1006 : Int32)) dX8_readItems_4 (by decide) ?_
  refine jr_icmp_eq X.c 14 dX8_readItems_7 (by decide) (fun q7 => ?_) (fun q7 => ?_)
  · replace h := cr_if_t q7 h
    refine jr_aload_n X.c dX8_readItems_14 rfl 0 rfl ?_
    obtain ⟨V15, hr15, h⟩ := cr_bd_s h
    refine jc_Vv X.c (As := []) (V1 := V15) (C := RX8) (T := TX8) (N := 22) (ci := 8) 0 (m_X8_record l w V1   V15 hr15) ⟨rfl, rfl⟩ ml_X8_102 im_X8_record sl_X8_record in_X8 cd_X8_record hd_X8_record ⟨Nat.le_of_ble_eq_true rfl, Nat.le_of_ble_eq_true rfl⟩ ⟨Nat.le_of_ble_eq_true rfl, Nat.le_of_ble_eq_true rfl⟩ rfl (Nat.le_of_ble_eq_true rfl) (by decide) ((cr_row_159 w) _) rfl rfl dX8_readItems_15 ?_
    refine jr_iconst X.c (v := (0 : Int32)) dX8_readItems_18 (by decide) ?_
    refine jr_istore_n X.c (lv2 := [(1, .int (0 : Int32)), (0, .ref (w.1 159))]) dX8_readItems_19 rfl (by decide) rfl ?_
    refine jr_aload_n X.c dX8_readItems_20 rfl 1 rfl ?_
    refine jr_iconst X.c (v := (0 : Int32)) dX8_readItems_21 (by decide) ?_
    obtain ⟨V22, eV22, h⟩ := cr_lt_s h
    refine jr_put X.c (ci := 8) (C := RX8) (T := TX8) (N := 22) (k := 15) rfl cr_in8 tyX8 tyX8_ok nmX8 (by decide) (cr_row_159 w) rfl (Nat.le_of_ble_eq_true rfl) (by decide) rfl rfl rfl fl_X8_154 dX8_readItems_22 eV22 ?_
    refine jr_iconst X.c (v := (1 : Int32)) dX8_readItems_25 (by decide) ?_
    refine jr_istore_n X.c (lv2 := [(2, .int (1 : Int32)), (1, .int (0 : Int32)), (0, .ref (w.1 159))]) dX8_readItems_26 rfl (by decide) rfl ?_
    obtain ⟨e27, he27, h⟩ := cr_bd_s h
    have kx74 : ∀ (u1_27_74 : Int32) (V_e27_74 : cr_Hp), e27 = (u1_27_74, V_e27_74) → cr_J w 3 p l e rm_X8_readItems s m args below meth c 0 0 (MQ below (cr_Qi w x.2 x.1) args s 0 0 (cr_A w)) V_e27_74 74 [(0, .ref (w.1 159)), (1, .int u1_27_74)] [] := by
      intro u1_27_74 V_e27_74 qx
      rw [qx] at h
      try simp only [cr_sm, cr_u2, cr_u3, cr_u4, cr_u5, cr_u6] at h
      refine jr_aload_n X.c dX8_readItems_74 rfl 0 rfl ?_
      refine jr_iconst X.c (v := (0 : Int32)) dX8_readItems_75 (by decide) ?_
      obtain ⟨V76, eV76, h⟩ := cr_lt_s h
      refine jr_put X.c (ci := 8) (C := RX8) (T := TX8) (N := 22) (k := 5) rfl cr_in8 tyX8 tyX8_ok nmX8 (by decide) (cr_row_159 w) rfl (Nat.le_of_ble_eq_true rfl) (by decide) rfl rfl rfl fl_X8_151 dX8_readItems_76 eV76 ?_
      refine jr_iload_n X.c dX8_readItems_79 rfl 1 rfl ?_
      cases h
      exact jr_iret X.c hr0 dX8_readItems_80
    refine jr_sub [2, 1, 0] rfl ?_
    refine cr_it_W (f := (fun (q : Int32 × Int32 × cr_Hp) => f_X8_readItems_l27  q.1 q.2.1 q.2.2)) (P := fun (q : Int32 × Int32 × cr_Hp) => cr_J w 3 p l e rm_X8_readItems s m args below meth c 0 0 (MQ below (cr_Qi w x.2 x.1) args s 0 0 (cr_A w)) q.2.2 27 [(0, .ref (w.1 159)), (1, .int q.1), (2, .int q.2.1)] []) (K := fun z => z = e27) (fun q x hx kl kr => ?_) cr_FU ((0 : Int32), (1 : Int32), V22) e27 he27 rfl
    obtain ⟨x1_27, x2_27, V_l27⟩ := q
    exact t_X8_readItems_l27 X x1_27 x2_27 V_l27  x hx (fun x1_27 x2_27 V_l27 ez => kl _ ez) (fun u1_27_74 V_e27_74 ez => kx74 u1_27_74 V_e27_74 ((kr _ ez).symm))
  · replace h := cr_if_f q7 h
    refine jr_sipush X.c (v := (-1005 : Int32)) dX8_readItems_10 (by decide) ?_
    cases h
    exact jr_iret X.c hr0 dX8_readItems_13
set_option maxRecDepth 100000 in
set_option maxHeartbeats 4000000 in
theorem m_X8_readItems (l : Launch) (w : cr_Wd) (V : cr_Hp)   (x : Int32 × cr_Hp) (h : f_X8_readItems  V = some x) : Met l yX8_readItems (cr_wds yX8_readItems cX8_readItems 3 (some .int)) rm_X8_readItems (cr_Pc w V [.ref (w.1 159)]) (cr_Qi w x.2 x.1) 0 0 (cr_A w) := by
  refine cr_met (own := RX8) (lv := [(0, .ref (w.1 159))]) (by decide +kernel) rfl (Nat.le_of_ble_eq_true rfl) rfl (fun p e s m args below meth c X hr0 => ?_)
  exact t_X8_readItems X  V  hr0 x h
abbrev rm_X8_undo : Room := { frames := 1, cells := 0, slots := 0, locals := 24 }
theorem hd_X8_undo : yX8_undo.cls = RX8 ∧ yX8_undo.cls ≠ "java/lang/invoke/MethodHandle" ∧ yX8_undo.cls ≠ "java/lang/invoke/VarHandle" ∧ (parseMethodDescriptor yX8_undo.desc).map (fun d => d.parameters.length) = some 0 := by decide +kernel
def f_X8_undo  (V : cr_Hp) : Option (Int32 × cr_Hp) :=
  if (V 159 3) = 0 then (some ((-1003 : Int32), V)) else (cr_lt (cr_pt V 159 3 ((V 159 3) - (1 : Int32))) (fun (V18 : cr_Hp) => cr_bd (f_X8_copies 162 160 ((V18 159 3) * (80 : Int32)) (0 : Int32) V18) (fun (V37 : cr_Hp) => some ((V37 159 3), V37))))
set_option maxRecDepth 100000 in
set_option maxHeartbeats 4000000 in
theorem t_X8_undo {p : Program} {l : Launch} {e : Env} {s : State} {m : MethodId} {args : Array Value} {below : List Frame} {meth : Method} {c : Code} {w : cr_Wd} (X : cr_Cx w RX8 (Cond.code yX8_undo cX8_undo 1 (some .int)) cX8_undo 1 p s m args meth c)  (V : cr_Hp)  (hr0 : meth.sig.returnType = (some .int)) (x : Int32 × cr_Hp) (h : f_X8_undo  V = some x) : cr_J w 1 p l e rm_X8_undo s m args below meth c 0 0 (MQ below (cr_Qi w x.2 x.1) args s 0 0 (cr_A w)) V 0 [(0, .ref (w.1 159))] [] := by
  unfold f_X8_undo at h
  refine jr_aload_n X.c dX8_undo_0 rfl 0 rfl ?_
  refine jr_get X.c (ci := 8) (C := RX8) (T := TX8) (N := 22) (k := 3) rfl cr_in8 (by decide) ((cr_row_159 w) _) rfl (by decide) fl_X8_31 dX8_undo_1 ?_
  refine jr_if_ne X.c 11 dX8_undo_4 (by decide) (fun q4 => ?_) (fun q4 => ?_)
  · replace h := cr_if_f q4 h
    refine jr_aload_n X.c dX8_undo_11 rfl 0 rfl ?_
    refine jr_dup X.c dX8_undo_12 rfl ?_
    refine jr_get X.c (ci := 8) (C := RX8) (T := TX8) (N := 22) (k := 3) rfl cr_in8 (by decide) ((cr_row_159 w) _) rfl (by decide) fl_X8_31 dX8_undo_13 ?_
    refine jr_iconst X.c (v := (1 : Int32)) dX8_undo_16 (by decide) ?_
    refine jr_isub X.c dX8_undo_17 ?_
    obtain ⟨V18, eV18, h⟩ := cr_lt_s h
    refine jr_put X.c (ci := 8) (C := RX8) (T := TX8) (N := 22) (k := 3) rfl cr_in8 tyX8 tyX8_ok nmX8 (by decide) (cr_row_159 w) rfl (Nat.le_of_ble_eq_true rfl) (by decide) rfl rfl rfl fl_X8_31 dX8_undo_18 eV18 ?_
    refine jr_aload_n X.c dX8_undo_21 rfl 0 rfl ?_
    refine jr_get X.c (ci := 8) (C := RX8) (T := TX8) (N := 22) (k := 2) rfl cr_in8 (by decide) ((cr_row_159 w) _) rfl (by decide) fl_X8_16 dX8_undo_22 ?_
    refine jr_aload_n X.c dX8_undo_25 rfl 0 rfl ?_
    refine jr_get X.c (ci := 8) (C := RX8) (T := TX8) (N := 22) (k := 3) rfl cr_in8 (by decide) ((cr_row_159 w) _) rfl (by decide) fl_X8_31 dX8_undo_26 ?_
    refine jr_bipush X.c (v := (80 : Int32)) dX8_undo_29 (by decide) ?_
    refine jr_imul X.c dX8_undo_31 ?_
    refine jr_aload_n X.c dX8_undo_32 rfl 0 rfl ?_
    refine jr_get X.c (ci := 8) (C := RX8) (T := TX8) (N := 22) (k := 0) rfl cr_in8 (by decide) ((cr_row_159 w) _) rfl (by decide) fl_X8_7 dX8_undo_33 ?_
    refine jr_iconst X.c (v := (0 : Int32)) dX8_undo_36 (by decide) ?_
    obtain ⟨V37, hr37, h⟩ := cr_bd_s h
    refine jc_Sv X.c (As := [.ref (w.1 162), .int ((V18 159 3) * (80 : Int32)), .ref (w.1 160), .int (0 : Int32)]) (V1 := V37) 4 (m_X8_copies l w V18 162 160 ((V18 159 3) * (80 : Int32)) (0 : Int32) (by decide) (by decide) V37 hr37) ⟨rfl, rfl⟩ ml_X8_35 st_X8_copies in_X8 cd_X8_copies hd_X8_copies ⟨Nat.le_of_ble_eq_true rfl, Nat.le_of_ble_eq_true rfl⟩ ⟨Nat.le_of_ble_eq_true rfl, Nat.le_of_ble_eq_true rfl⟩ rfl (Nat.le_of_ble_eq_true rfl) rfl dX8_undo_37 ?_
    refine jr_aload_n X.c dX8_undo_40 rfl 0 rfl ?_
    refine jr_get X.c (ci := 8) (C := RX8) (T := TX8) (N := 22) (k := 3) rfl cr_in8 (by decide) ((cr_row_159 w) _) rfl (by decide) fl_X8_31 dX8_undo_41 ?_
    cases h
    exact jr_iret X.c hr0 dX8_undo_44
  · replace h := cr_if_t q4 h
    refine jr_sipush X.c (v := (-1003 : Int32)) dX8_undo_7 (by decide) ?_
    cases h
    exact jr_iret X.c hr0 dX8_undo_10
set_option maxRecDepth 100000 in
set_option maxHeartbeats 4000000 in
theorem m_X8_undo (l : Launch) (w : cr_Wd) (V : cr_Hp)   (x : Int32 × cr_Hp) (h : f_X8_undo  V = some x) : Met l yX8_undo (cr_wds yX8_undo cX8_undo 1 (some .int)) rm_X8_undo (cr_Pc w V [.ref (w.1 159)]) (cr_Qi w x.2 x.1) 0 0 (cr_A w) := by
  refine cr_met (own := RX8) (lv := [(0, .ref (w.1 159))]) (by decide +kernel) rfl (Nat.le_of_ble_eq_true rfl) rfl (fun p e s m args below meth c X hr0 => ?_)
  exact t_X8_undo X  V  hr0 x h
abbrev rm_X8_digest : Room := { frames := 5, cells := 0, slots := 0, locals := 118 }
theorem hd_X8_digest : yX8_digest.cls = RX8 ∧ yX8_digest.cls ≠ "java/lang/invoke/MethodHandle" ∧ yX8_digest.cls ≠ "java/lang/invoke/VarHandle" ∧ (parseMethodDescriptor yX8_digest.desc).map (fun d => d.parameters.length) = some 0 := by decide +kernel
def f_X8_digest_l6 (x1_6 : Int64) (x3_6 : Int32) (V : cr_Hp) : Option ((Int64 × Int32) ⊕ Int64) :=
  if (7 : Int32) < x3_6 then (some (.inr x1_6)) else (cr_gd (cr_ix x3_6 80) (cr_lt ((((31 : Int64) * x1_6) + (V 160 x3_6.toNatClampNeg).toInt64)) (fun (n25 : Int64) => some (.inl (n25, (x3_6 + (1 : Int32)))))))
set_option maxRecDepth 100000 in
set_option maxHeartbeats 4000000 in
theorem t_X8_digest_l6 {p : Program} {l : Launch} {e : Env} {s : State} {m : MethodId} {args : Array Value} {below : List Frame} {meth : Method} {c : Code} {w : cr_Wd} {Q : State → Prop} (X : cr_Cx w RX8 (Cond.code yX8_digest cX8_digest 5 (some .long)) cX8_digest 5 p s m args meth c) (x1_6 : Int64) (x3_6 : Int32) (V : cr_Hp)  (x : (Int64 × Int32) ⊕ Int64) (h : f_X8_digest_l6 x1_6 x3_6 V = some x) (kl : ∀ (x1_6 : Int64) (x3_6 : Int32), x = .inl (x1_6, x3_6) → cr_J w 5 p l e rm_X8_digest s m args below meth c 0 0 Q V 6 [(0, .ref (w.1 159)), (1, .long x1_6), (3, .int x3_6)] []) (kr32 : ∀ (u1_6_32 : Int64), x = .inr u1_6_32 → cr_J w 5 p l e rm_X8_digest s m args below meth c 0 0 Q V 32 [(0, .ref (w.1 159)), (1, .long u1_6_32)] []) : cr_J w 5 p l e rm_X8_digest s m args below meth c 0 0 Q V 6 [(0, .ref (w.1 159)), (1, .long x1_6), (3, .int x3_6)] [] := by
  unfold f_X8_digest_l6 at h
  refine jr_iload_n X.c dX8_digest_6 rfl 2 rfl ?_
  refine jr_bipush X.c (v := (7 : Int32)) dX8_digest_7 (by decide) ?_
  refine jr_icmp_gt X.c 32 dX8_digest_9 (by decide) (fun q9 => ?_) (fun q9 => ?_)
  · replace h := cr_if_t q9 h
    cases h
    refine jr_sub [0, 1] rfl ?_
    exact kr32 x1_6 rfl
  · replace h := cr_if_f q9 h
    refine jr_ldc2 X.c kl_X8_199 dX8_digest_12 ?_
    refine jr_lload_n X.c dX8_digest_15 rfl 1 rfl ?_
    refine jr_lmul X.c dX8_digest_16 ?_
    refine jr_aload_n X.c dX8_digest_17 rfl 0 rfl ?_
    refine jr_get X.c (ci := 8) (C := RX8) (T := TX8) (N := 22) (k := 0) rfl cr_in8 (by decide) ((cr_row_159 w) _) rfl (by decide) fl_X8_7 dX8_digest_18 ?_
    refine jr_iload_n X.c dX8_digest_21 rfl 2 rfl ?_
    obtain ⟨hi22, h⟩ := cr_gd_s h
    refine jr_iald X.c (by decide) ((cr_row_160 w) _) hi22 dX8_digest_22 ?_
    refine jr_i2l X.c dX8_digest_23 ?_
    refine jr_ladd X.c dX8_digest_24 ?_
    obtain ⟨n25, en25, h⟩ := cr_lt_s h
    refine jr_topl en25 ?_
    refine jr_lstore_n X.c (lv2 := [(1, .long n25), (0, .ref (w.1 159)), (3, .int x3_6)]) dX8_digest_25 rfl (by decide) rfl ?_
    refine jr_iinc X.c (v := (x3_6 + (1 : Int32))) (lv2 := [(3, .int (x3_6 + (1 : Int32))), (1, .long n25), (0, .ref (w.1 159))]) dX8_digest_26 2 rfl (by rfl) (by decide) rfl ?_
    refine jr_goto X.c 6 dX8_digest_29 (by decide) ?_
    cases h
    refine jr_sub [2, 1, 0] rfl ?_
    exact kl n25 (x3_6 + (1 : Int32)) rfl
def f_X8_digest_l47 (x3_34 : Int32) (x1_47 : Int64) (x4_47 : Int32) (V : cr_Hp) : Option ((Int64 × Int32) ⊕ Int64) :=
  if (5 : Int32) < x4_47 then (some (.inr x1_47)) else (cr_bd (f_X8_ofMarble x3_34 x4_47 V) (fun (r62 : Int32) => some (.inl ((((31 : Int64) * x1_47) + r62.toInt64), (x4_47 + (1 : Int32))))))
set_option maxRecDepth 100000 in
set_option maxHeartbeats 4000000 in
theorem t_X8_digest_l47 {p : Program} {l : Launch} {e : Env} {s : State} {m : MethodId} {args : Array Value} {below : List Frame} {meth : Method} {c : Code} {w : cr_Wd} {Q : State → Prop} (X : cr_Cx w RX8 (Cond.code yX8_digest cX8_digest 5 (some .long)) cX8_digest 5 p s m args meth c) (x3_34 : Int32) (x1_47 : Int64) (x4_47 : Int32) (V : cr_Hp)  (x : (Int64 × Int32) ⊕ Int64) (h : f_X8_digest_l47 x3_34 x1_47 x4_47 V = some x) (kl : ∀ (x1_47 : Int64) (x4_47 : Int32), x = .inl (x1_47, x4_47) → cr_J w 5 p l e rm_X8_digest s m args below meth c 0 0 Q V 47 [(0, .ref (w.1 159)), (1, .long x1_47), (3, .int x3_34), (4, .int x4_47)] []) (kr74 : ∀ (u1_47_74 : Int64), x = .inr u1_47_74 → cr_J w 5 p l e rm_X8_digest s m args below meth c 0 0 Q V 74 [(0, .ref (w.1 159)), (1, .long u1_47_74), (3, .int x3_34)] []) : cr_J w 5 p l e rm_X8_digest s m args below meth c 0 0 Q V 47 [(0, .ref (w.1 159)), (1, .long x1_47), (3, .int x3_34), (4, .int x4_47)] [] := by
  unfold f_X8_digest_l47 at h
  refine jr_iload X.c dX8_digest_47 3 rfl ?_
  refine jr_iconst X.c (v := (5 : Int32)) dX8_digest_49 (by decide) ?_
  refine jr_icmp_gt X.c 74 dX8_digest_50 (by decide) (fun q50 => ?_) (fun q50 => ?_)
  · replace h := cr_if_t q50 h
    cases h
    refine jr_sub [0, 1, 2] rfl ?_
    exact kr74 x1_47 rfl
  · replace h := cr_if_f q50 h
    refine jr_ldc2 X.c kl_X8_199 dX8_digest_53 ?_
    refine jr_lload_n X.c dX8_digest_56 rfl 1 rfl ?_
    refine jr_lmul X.c dX8_digest_57 ?_
    refine jr_aload_n X.c dX8_digest_58 rfl 0 rfl ?_
    refine jr_iload_n X.c dX8_digest_59 rfl 2 rfl ?_
    refine jr_iload X.c dX8_digest_60 3 rfl ?_
    obtain ⟨r62, hr62, h⟩ := cr_bd_s h
    refine jc_Vi X.c (As := [.int x3_34, .int x4_47]) (V1 := V) (C := RX8) (T := TX8) (N := 22) (ci := 8) 2 (m_X8_ofMarble l w V x3_34 x4_47  r62 hr62) ⟨rfl, rfl⟩ ml_X8_129 im_X8_ofMarble sl_X8_ofMarble in_X8 cd_X8_ofMarble hd_X8_ofMarble ⟨Nat.le_of_ble_eq_true rfl, Nat.le_of_ble_eq_true rfl⟩ ⟨Nat.le_of_ble_eq_true rfl, Nat.le_of_ble_eq_true rfl⟩ rfl (Nat.le_of_ble_eq_true rfl) (by decide) ((cr_row_159 w) _) rfl rfl dX8_digest_62 ?_
    refine jr_i2l X.c dX8_digest_65 ?_
    refine jr_ladd X.c dX8_digest_66 ?_
    refine jr_lstore_n X.c (lv2 := [(1, .long (((31 : Int64) * x1_47) + r62.toInt64)), (0, .ref (w.1 159)), (3, .int x3_34), (4, .int x4_47)]) dX8_digest_67 rfl (by decide) rfl ?_
    refine jr_iinc X.c (v := (x4_47 + (1 : Int32))) (lv2 := [(4, .int (x4_47 + (1 : Int32))), (1, .long (((31 : Int64) * x1_47) + r62.toInt64)), (0, .ref (w.1 159)), (3, .int x3_34)]) dX8_digest_68 3 rfl (by rfl) (by decide) rfl ?_
    refine jr_goto X.c 47 dX8_digest_71 (by decide) ?_
    cases h
    refine jr_sub [2, 1, 3, 0] rfl ?_
    exact kl (((31 : Int64) * x1_47) + r62.toInt64) (x4_47 + (1 : Int32)) rfl
def f_X8_digest_l34 (x1_34 : Int64) (x3_34 : Int32) (V : cr_Hp) : Option ((Int64 × Int32) ⊕ Int64) :=
  cr_gd (cr_ix (0 : Int32) 80) (if (V 160 (0 : Int32).toNatClampNeg) ≤ x3_34 then (some (.inr x1_34)) else (cr_bd (cr_it (fun (q : Int64 × Int32) => f_X8_digest_l47 x3_34 q.1 q.2 V) cr_FU (x1_34, (0 : Int32))) (fun (u1_47_74 : Int64) => some (.inl (u1_47_74, (x3_34 + (1 : Int32)))))))
set_option maxRecDepth 100000 in
set_option maxHeartbeats 4000000 in
theorem t_X8_digest_l34 {p : Program} {l : Launch} {e : Env} {s : State} {m : MethodId} {args : Array Value} {below : List Frame} {meth : Method} {c : Code} {w : cr_Wd} {Q : State → Prop} (X : cr_Cx w RX8 (Cond.code yX8_digest cX8_digest 5 (some .long)) cX8_digest 5 p s m args meth c) (x1_34 : Int64) (x3_34 : Int32) (V : cr_Hp)  (x : (Int64 × Int32) ⊕ Int64) (h : f_X8_digest_l34 x1_34 x3_34 V = some x) (kl : ∀ (x1_34 : Int64) (x3_34 : Int32), x = .inl (x1_34, x3_34) → cr_J w 5 p l e rm_X8_digest s m args below meth c 0 0 Q V 34 [(0, .ref (w.1 159)), (1, .long x1_34), (3, .int x3_34)] []) (kr80 : ∀ (u1_34_80 : Int64), x = .inr u1_34_80 → cr_J w 5 p l e rm_X8_digest s m args below meth c 0 0 Q V 80 [(0, .ref (w.1 159)), (1, .long u1_34_80)] []) : cr_J w 5 p l e rm_X8_digest s m args below meth c 0 0 Q V 34 [(0, .ref (w.1 159)), (1, .long x1_34), (3, .int x3_34)] [] := by
  unfold f_X8_digest_l34 at h
  refine jr_iload_n X.c dX8_digest_34 rfl 2 rfl ?_
  refine jr_aload_n X.c dX8_digest_35 rfl 0 rfl ?_
  refine jr_get X.c (ci := 8) (C := RX8) (T := TX8) (N := 22) (k := 0) rfl cr_in8 (by decide) ((cr_row_159 w) _) rfl (by decide) fl_X8_7 dX8_digest_36 ?_
  refine jr_iconst X.c (v := (0 : Int32)) dX8_digest_39 (by decide) ?_
  obtain ⟨hi40, h⟩ := cr_gd_s h
  refine jr_iald X.c (by decide) ((cr_row_160 w) _) hi40 dX8_digest_40 ?_
  refine jr_icmp_ge X.c 80 dX8_digest_41 (by decide) (fun q41 => ?_) (fun q41 => ?_)
  · replace h := cr_if_t q41 h
    cases h
    refine jr_sub [0, 1] rfl ?_
    exact kr80 x1_34 rfl
  · replace h := cr_if_f q41 h
    refine jr_iconst X.c (v := (0 : Int32)) dX8_digest_44 (by decide) ?_
    refine jr_istore X.c (lv2 := [(4, .int (0 : Int32)), (0, .ref (w.1 159)), (1, .long x1_34), (3, .int x3_34)]) dX8_digest_45 (by decide) rfl ?_
    obtain ⟨e47, he47, h⟩ := cr_bd_s h
    have kx74 : ∀ (u1_47_74 : Int64), e47 = u1_47_74 → cr_J w 5 p l e rm_X8_digest s m args below meth c 0 0 Q V 74 [(0, .ref (w.1 159)), (1, .long u1_47_74), (3, .int x3_34)] [] := by
      intro u1_47_74 qx
      rw [qx] at h
      try simp only [cr_sm, cr_u2, cr_u3, cr_u4, cr_u5, cr_u6] at h
      refine jr_iinc X.c (v := (x3_34 + (1 : Int32))) (lv2 := [(3, .int (x3_34 + (1 : Int32))), (0, .ref (w.1 159)), (1, .long u1_47_74)]) dX8_digest_74 2 rfl (by rfl) (by decide) rfl ?_
      refine jr_goto X.c 34 dX8_digest_77 (by decide) ?_
      cases h
      refine jr_sub [1, 2, 0] rfl ?_
      exact kl u1_47_74 (x3_34 + (1 : Int32)) rfl
    refine jr_sub [1, 2, 3, 0] rfl ?_
    refine cr_it_W (f := (fun (q : Int64 × Int32) => f_X8_digest_l47 x3_34 q.1 q.2 V)) (P := fun (q : Int64 × Int32) => cr_J w 5 p l e rm_X8_digest s m args below meth c 0 0 Q V 47 [(0, .ref (w.1 159)), (1, .long q.1), (3, .int x3_34), (4, .int q.2)] []) (K := fun z => z = e47) (fun q x hx kl kr => ?_) cr_FU (x1_34, (0 : Int32)) e47 he47 rfl
    obtain ⟨x1_47, x4_47⟩ := q
    exact t_X8_digest_l47 X x3_34 x1_47 x4_47 V  x hx (fun x1_47 x4_47 ez => kl _ ez) (fun u1_47_74 ez => kx74 u1_47_74 ((kr _ ez).symm))
def f_X8_digest_l95 (x3_82 : Int32) (x1_95 : Int64) (x4_95 : Int32) (V : cr_Hp) : Option ((Int64 × Int32) ⊕ Int64) :=
  if (4 : Int32) < x4_95 then (some (.inr x1_95)) else (cr_bd (f_X8_ofRing x3_82 x4_95 V) (fun (r110 : Int32) => some (.inl ((((31 : Int64) * x1_95) + r110.toInt64), (x4_95 + (1 : Int32))))))
set_option maxRecDepth 100000 in
set_option maxHeartbeats 4000000 in
theorem t_X8_digest_l95 {p : Program} {l : Launch} {e : Env} {s : State} {m : MethodId} {args : Array Value} {below : List Frame} {meth : Method} {c : Code} {w : cr_Wd} {Q : State → Prop} (X : cr_Cx w RX8 (Cond.code yX8_digest cX8_digest 5 (some .long)) cX8_digest 5 p s m args meth c) (x3_82 : Int32) (x1_95 : Int64) (x4_95 : Int32) (V : cr_Hp)  (x : (Int64 × Int32) ⊕ Int64) (h : f_X8_digest_l95 x3_82 x1_95 x4_95 V = some x) (kl : ∀ (x1_95 : Int64) (x4_95 : Int32), x = .inl (x1_95, x4_95) → cr_J w 5 p l e rm_X8_digest s m args below meth c 0 0 Q V 95 [(0, .ref (w.1 159)), (1, .long x1_95), (3, .int x3_82), (4, .int x4_95)] []) (kr122 : ∀ (u1_95_122 : Int64), x = .inr u1_95_122 → cr_J w 5 p l e rm_X8_digest s m args below meth c 0 0 Q V 122 [(0, .ref (w.1 159)), (1, .long u1_95_122), (3, .int x3_82)] []) : cr_J w 5 p l e rm_X8_digest s m args below meth c 0 0 Q V 95 [(0, .ref (w.1 159)), (1, .long x1_95), (3, .int x3_82), (4, .int x4_95)] [] := by
  unfold f_X8_digest_l95 at h
  refine jr_iload X.c dX8_digest_95 3 rfl ?_
  refine jr_iconst X.c (v := (4 : Int32)) dX8_digest_97 (by decide) ?_
  refine jr_icmp_gt X.c 122 dX8_digest_98 (by decide) (fun q98 => ?_) (fun q98 => ?_)
  · replace h := cr_if_t q98 h
    cases h
    refine jr_sub [0, 1, 2] rfl ?_
    exact kr122 x1_95 rfl
  · replace h := cr_if_f q98 h
    refine jr_ldc2 X.c kl_X8_199 dX8_digest_101 ?_
    refine jr_lload_n X.c dX8_digest_104 rfl 1 rfl ?_
    refine jr_lmul X.c dX8_digest_105 ?_
    refine jr_aload_n X.c dX8_digest_106 rfl 0 rfl ?_
    refine jr_iload_n X.c dX8_digest_107 rfl 2 rfl ?_
    refine jr_iload X.c dX8_digest_108 3 rfl ?_
    obtain ⟨r110, hr110, h⟩ := cr_bd_s h
    refine jc_Vi X.c (As := [.int x3_82, .int x4_95]) (V1 := V) (C := RX8) (T := TX8) (N := 22) (ci := 8) 2 (m_X8_ofRing l w V x3_82 x4_95  r110 hr110) ⟨rfl, rfl⟩ ml_X8_138 im_X8_ofRing sl_X8_ofRing in_X8 cd_X8_ofRing hd_X8_ofRing ⟨Nat.le_of_ble_eq_true rfl, Nat.le_of_ble_eq_true rfl⟩ ⟨Nat.le_of_ble_eq_true rfl, Nat.le_of_ble_eq_true rfl⟩ rfl (Nat.le_of_ble_eq_true rfl) (by decide) ((cr_row_159 w) _) rfl rfl dX8_digest_110 ?_
    refine jr_i2l X.c dX8_digest_113 ?_
    refine jr_ladd X.c dX8_digest_114 ?_
    refine jr_lstore_n X.c (lv2 := [(1, .long (((31 : Int64) * x1_95) + r110.toInt64)), (0, .ref (w.1 159)), (3, .int x3_82), (4, .int x4_95)]) dX8_digest_115 rfl (by decide) rfl ?_
    refine jr_iinc X.c (v := (x4_95 + (1 : Int32))) (lv2 := [(4, .int (x4_95 + (1 : Int32))), (1, .long (((31 : Int64) * x1_95) + r110.toInt64)), (0, .ref (w.1 159)), (3, .int x3_82)]) dX8_digest_116 3 rfl (by rfl) (by decide) rfl ?_
    refine jr_goto X.c 95 dX8_digest_119 (by decide) ?_
    cases h
    refine jr_sub [2, 1, 3, 0] rfl ?_
    exact kl (((31 : Int64) * x1_95) + r110.toInt64) (x4_95 + (1 : Int32)) rfl
def f_X8_digest_l82 (x1_82 : Int64) (x3_82 : Int32) (V : cr_Hp) : Option ((Int64 × Int32) ⊕ Int64) :=
  cr_gd (cr_ix (1 : Int32) 80) (if (V 160 (1 : Int32).toNatClampNeg) ≤ x3_82 then (some (.inr x1_82)) else (cr_bd (cr_it (fun (q : Int64 × Int32) => f_X8_digest_l95 x3_82 q.1 q.2 V) cr_FU (x1_82, (0 : Int32))) (fun (u1_95_122 : Int64) => some (.inl (u1_95_122, (x3_82 + (1 : Int32)))))))
set_option maxRecDepth 100000 in
set_option maxHeartbeats 4000000 in
theorem t_X8_digest_l82 {p : Program} {l : Launch} {e : Env} {s : State} {m : MethodId} {args : Array Value} {below : List Frame} {meth : Method} {c : Code} {w : cr_Wd} {Q : State → Prop} (X : cr_Cx w RX8 (Cond.code yX8_digest cX8_digest 5 (some .long)) cX8_digest 5 p s m args meth c) (x1_82 : Int64) (x3_82 : Int32) (V : cr_Hp)  (x : (Int64 × Int32) ⊕ Int64) (h : f_X8_digest_l82 x1_82 x3_82 V = some x) (kl : ∀ (x1_82 : Int64) (x3_82 : Int32), x = .inl (x1_82, x3_82) → cr_J w 5 p l e rm_X8_digest s m args below meth c 0 0 Q V 82 [(0, .ref (w.1 159)), (1, .long x1_82), (3, .int x3_82)] []) (kr128 : ∀ (u1_82_128 : Int64), x = .inr u1_82_128 → cr_J w 5 p l e rm_X8_digest s m args below meth c 0 0 Q V 128 [(0, .ref (w.1 159)), (1, .long u1_82_128)] []) : cr_J w 5 p l e rm_X8_digest s m args below meth c 0 0 Q V 82 [(0, .ref (w.1 159)), (1, .long x1_82), (3, .int x3_82)] [] := by
  unfold f_X8_digest_l82 at h
  refine jr_iload_n X.c dX8_digest_82 rfl 2 rfl ?_
  refine jr_aload_n X.c dX8_digest_83 rfl 0 rfl ?_
  refine jr_get X.c (ci := 8) (C := RX8) (T := TX8) (N := 22) (k := 0) rfl cr_in8 (by decide) ((cr_row_159 w) _) rfl (by decide) fl_X8_7 dX8_digest_84 ?_
  refine jr_iconst X.c (v := (1 : Int32)) dX8_digest_87 (by decide) ?_
  obtain ⟨hi88, h⟩ := cr_gd_s h
  refine jr_iald X.c (by decide) ((cr_row_160 w) _) hi88 dX8_digest_88 ?_
  refine jr_icmp_ge X.c 128 dX8_digest_89 (by decide) (fun q89 => ?_) (fun q89 => ?_)
  · replace h := cr_if_t q89 h
    cases h
    refine jr_sub [0, 1] rfl ?_
    exact kr128 x1_82 rfl
  · replace h := cr_if_f q89 h
    refine jr_iconst X.c (v := (0 : Int32)) dX8_digest_92 (by decide) ?_
    refine jr_istore X.c (lv2 := [(4, .int (0 : Int32)), (0, .ref (w.1 159)), (1, .long x1_82), (3, .int x3_82)]) dX8_digest_93 (by decide) rfl ?_
    obtain ⟨e95, he95, h⟩ := cr_bd_s h
    have kx122 : ∀ (u1_95_122 : Int64), e95 = u1_95_122 → cr_J w 5 p l e rm_X8_digest s m args below meth c 0 0 Q V 122 [(0, .ref (w.1 159)), (1, .long u1_95_122), (3, .int x3_82)] [] := by
      intro u1_95_122 qx
      rw [qx] at h
      try simp only [cr_sm, cr_u2, cr_u3, cr_u4, cr_u5, cr_u6] at h
      refine jr_iinc X.c (v := (x3_82 + (1 : Int32))) (lv2 := [(3, .int (x3_82 + (1 : Int32))), (0, .ref (w.1 159)), (1, .long u1_95_122)]) dX8_digest_122 2 rfl (by rfl) (by decide) rfl ?_
      refine jr_goto X.c 82 dX8_digest_125 (by decide) ?_
      cases h
      refine jr_sub [1, 2, 0] rfl ?_
      exact kl u1_95_122 (x3_82 + (1 : Int32)) rfl
    refine jr_sub [1, 2, 3, 0] rfl ?_
    refine cr_it_W (f := (fun (q : Int64 × Int32) => f_X8_digest_l95 x3_82 q.1 q.2 V)) (P := fun (q : Int64 × Int32) => cr_J w 5 p l e rm_X8_digest s m args below meth c 0 0 Q V 95 [(0, .ref (w.1 159)), (1, .long q.1), (3, .int x3_82), (4, .int q.2)] []) (K := fun z => z = e95) (fun q x hx kl kr => ?_) cr_FU (x1_82, (0 : Int32)) e95 he95 rfl
    obtain ⟨x1_95, x4_95⟩ := q
    exact t_X8_digest_l95 X x3_82 x1_95 x4_95 V  x hx (fun x1_95 x4_95 ez => kl _ ez) (fun u1_95_122 ez => kx122 u1_95_122 ((kr _ ez).symm))
def f_X8_digest_l130 (x1_130 : Int64) (x3_130 : Int32) (V : cr_Hp) : Option ((Int64 × Int32) ⊕ Int64) :=
  if (3 : Int32) ≤ x3_130 then (some (.inr x1_130)) else (cr_bd (f_X8_scoreOf x3_130 V) (fun (r142 : Int32) => some (.inl ((((31 : Int64) * x1_130) + r142.toInt64), (x3_130 + (1 : Int32))))))
set_option maxRecDepth 100000 in
set_option maxHeartbeats 4000000 in
theorem t_X8_digest_l130 {p : Program} {l : Launch} {e : Env} {s : State} {m : MethodId} {args : Array Value} {below : List Frame} {meth : Method} {c : Code} {w : cr_Wd} {Q : State → Prop} (X : cr_Cx w RX8 (Cond.code yX8_digest cX8_digest 5 (some .long)) cX8_digest 5 p s m args meth c) (x1_130 : Int64) (x3_130 : Int32) (V : cr_Hp)  (x : (Int64 × Int32) ⊕ Int64) (h : f_X8_digest_l130 x1_130 x3_130 V = some x) (kl : ∀ (x1_130 : Int64) (x3_130 : Int32), x = .inl (x1_130, x3_130) → cr_J w 5 p l e rm_X8_digest s m args below meth c 0 0 Q V 130 [(0, .ref (w.1 159)), (1, .long x1_130), (3, .int x3_130)] []) (kr154 : ∀ (u1_130_154 : Int64), x = .inr u1_130_154 → cr_J w 5 p l e rm_X8_digest s m args below meth c 0 0 Q V 154 [(0, .ref (w.1 159)), (1, .long u1_130_154)] []) : cr_J w 5 p l e rm_X8_digest s m args below meth c 0 0 Q V 130 [(0, .ref (w.1 159)), (1, .long x1_130), (3, .int x3_130)] [] := by
  unfold f_X8_digest_l130 at h
  refine jr_iload_n X.c dX8_digest_130 rfl 2 rfl ?_
  refine jr_iconst X.c (v := (3 : Int32)) dX8_digest_131 (by decide) ?_
  refine jr_icmp_ge X.c 154 dX8_digest_132 (by decide) (fun q132 => ?_) (fun q132 => ?_)
  · replace h := cr_if_t q132 h
    cases h
    refine jr_sub [0, 1] rfl ?_
    exact kr154 x1_130 rfl
  · replace h := cr_if_f q132 h
    refine jr_ldc2 X.c kl_X8_199 dX8_digest_135 ?_
    refine jr_lload_n X.c dX8_digest_138 rfl 1 rfl ?_
    refine jr_lmul X.c dX8_digest_139 ?_
    refine jr_aload_n X.c dX8_digest_140 rfl 0 rfl ?_
    refine jr_iload_n X.c dX8_digest_141 rfl 2 rfl ?_
    obtain ⟨r142, hr142, h⟩ := cr_bd_s h
    refine jc_Vi X.c (As := [.int x3_130]) (V1 := V) (C := RX8) (T := TX8) (N := 22) (ci := 8) 1 (m_X8_scoreOf l w V x3_130  r142 hr142) ⟨rfl, rfl⟩ ml_X8_141 im_X8_scoreOf sl_X8_scoreOf in_X8 cd_X8_scoreOf hd_X8_scoreOf ⟨Nat.le_of_ble_eq_true rfl, Nat.le_of_ble_eq_true rfl⟩ ⟨Nat.le_of_ble_eq_true rfl, Nat.le_of_ble_eq_true rfl⟩ rfl (Nat.le_of_ble_eq_true rfl) (by decide) ((cr_row_159 w) _) rfl rfl dX8_digest_142 ?_
    refine jr_i2l X.c dX8_digest_145 ?_
    refine jr_ladd X.c dX8_digest_146 ?_
    refine jr_lstore_n X.c (lv2 := [(1, .long (((31 : Int64) * x1_130) + r142.toInt64)), (0, .ref (w.1 159)), (3, .int x3_130)]) dX8_digest_147 rfl (by decide) rfl ?_
    refine jr_iinc X.c (v := (x3_130 + (1 : Int32))) (lv2 := [(3, .int (x3_130 + (1 : Int32))), (1, .long (((31 : Int64) * x1_130) + r142.toInt64)), (0, .ref (w.1 159))]) dX8_digest_148 2 rfl (by rfl) (by decide) rfl ?_
    refine jr_goto X.c 130 dX8_digest_151 (by decide) ?_
    cases h
    refine jr_sub [2, 1, 0] rfl ?_
    exact kl (((31 : Int64) * x1_130) + r142.toInt64) (x3_130 + (1 : Int32)) rfl
def f_X8_digest_l168 (x1_168 : Int64) (x3_168 : Int32) (V : cr_Hp) : Option ((Int64 × Int32) ⊕ Int64) :=
  cr_gd (cr_ix (0 : Int32) 80) (if (V 160 (0 : Int32).toNatClampNeg) ≤ x3_168 then (some (.inr x1_168)) else (cr_bd (f_X8_isThere x3_168 V) (fun (r185 : Int32) => if r185 = 0 then (some (.inl ((((31 : Int64) * x1_168) + (-1003 : Int32).toInt64), (x3_168 + (1 : Int32))))) else (cr_bd (f_X8_stepsOut x3_168 V) (fun (r193 : Int32) => some (.inl ((((31 : Int64) * x1_168) + r193.toInt64), (x3_168 + (1 : Int32)))))))))
set_option maxRecDepth 100000 in
set_option maxHeartbeats 4000000 in
theorem t_X8_digest_l168 {p : Program} {l : Launch} {e : Env} {s : State} {m : MethodId} {args : Array Value} {below : List Frame} {meth : Method} {c : Code} {w : cr_Wd} {Q : State → Prop} (X : cr_Cx w RX8 (Cond.code yX8_digest cX8_digest 5 (some .long)) cX8_digest 5 p s m args meth c) (x1_168 : Int64) (x3_168 : Int32) (V : cr_Hp)  (x : (Int64 × Int32) ⊕ Int64) (h : f_X8_digest_l168 x1_168 x3_168 V = some x) (kl : ∀ (x1_168 : Int64) (x3_168 : Int32), x = .inl (x1_168, x3_168) → cr_J w 5 p l e rm_X8_digest s m args below meth c 0 0 Q V 168 [(0, .ref (w.1 159)), (1, .long x1_168), (3, .int x3_168)] []) (kr211 : ∀ (u1_168_211 : Int64), x = .inr u1_168_211 → cr_J w 5 p l e rm_X8_digest s m args below meth c 0 0 Q V 211 [(1, .long u1_168_211)] []) : cr_J w 5 p l e rm_X8_digest s m args below meth c 0 0 Q V 168 [(0, .ref (w.1 159)), (1, .long x1_168), (3, .int x3_168)] [] := by
  unfold f_X8_digest_l168 at h
  refine jr_iload_n X.c dX8_digest_168 rfl 2 rfl ?_
  refine jr_aload_n X.c dX8_digest_169 rfl 0 rfl ?_
  refine jr_get X.c (ci := 8) (C := RX8) (T := TX8) (N := 22) (k := 0) rfl cr_in8 (by decide) ((cr_row_159 w) _) rfl (by decide) fl_X8_7 dX8_digest_170 ?_
  refine jr_iconst X.c (v := (0 : Int32)) dX8_digest_173 (by decide) ?_
  obtain ⟨hi174, h⟩ := cr_gd_s h
  refine jr_iald X.c (by decide) ((cr_row_160 w) _) hi174 dX8_digest_174 ?_
  refine jr_icmp_ge X.c 211 dX8_digest_175 (by decide) (fun q175 => ?_) (fun q175 => ?_)
  · replace h := cr_if_t q175 h
    cases h
    refine jr_sub [1] rfl ?_
    exact kr211 x1_168 rfl
  · replace h := cr_if_f q175 h
    refine jr_ldc2 X.c kl_X8_199 dX8_digest_178 ?_
    refine jr_lload_n X.c dX8_digest_181 rfl 1 rfl ?_
    refine jr_lmul X.c dX8_digest_182 ?_
    refine jr_aload_n X.c dX8_digest_183 rfl 0 rfl ?_
    refine jr_iload_n X.c dX8_digest_184 rfl 2 rfl ?_
    obtain ⟨r185, hr185, h⟩ := cr_bd_s h
    refine jc_Vi X.c (As := [.int x3_168]) (V1 := V) (C := RX8) (T := TX8) (N := 22) (ci := 8) 1 (m_X8_isThere l w V x3_168  r185 hr185) ⟨rfl, rfl⟩ ml_X8_56 im_X8_isThere sl_X8_isThere in_X8 cd_X8_isThere hd_X8_isThere ⟨Nat.le_of_ble_eq_true rfl, Nat.le_of_ble_eq_true rfl⟩ ⟨Nat.le_of_ble_eq_true rfl, Nat.le_of_ble_eq_true rfl⟩ rfl (Nat.le_of_ble_eq_true rfl) (by decide) ((cr_row_159 w) _) rfl rfl dX8_digest_185 ?_
    refine jr_if_eq X.c 199 dX8_digest_188 (by decide) (fun q188 => ?_) (fun q188 => ?_)
    · replace h := cr_if_t q188 h
      refine jr_sipush X.c (v := (-1003 : Int32)) dX8_digest_199 (by decide) ?_
      refine jr_i2l X.c dX8_digest_202 ?_
      refine jr_ladd X.c dX8_digest_203 ?_
      refine jr_lstore_n X.c (lv2 := [(1, .long (((31 : Int64) * x1_168) + (-1003 : Int32).toInt64)), (0, .ref (w.1 159)), (3, .int x3_168)]) dX8_digest_204 rfl (by decide) rfl ?_
      refine jr_iinc X.c (v := (x3_168 + (1 : Int32))) (lv2 := [(3, .int (x3_168 + (1 : Int32))), (1, .long (((31 : Int64) * x1_168) + (-1003 : Int32).toInt64)), (0, .ref (w.1 159))]) dX8_digest_205 2 rfl (by rfl) (by decide) rfl ?_
      refine jr_goto X.c 168 dX8_digest_208 (by decide) ?_
      cases h
      refine jr_sub [2, 1, 0] rfl ?_
      exact kl (((31 : Int64) * x1_168) + (-1003 : Int32).toInt64) (x3_168 + (1 : Int32)) rfl
    · replace h := cr_if_f q188 h
      refine jr_aload_n X.c dX8_digest_191 rfl 0 rfl ?_
      refine jr_iload_n X.c dX8_digest_192 rfl 2 rfl ?_
      obtain ⟨r193, hr193, h⟩ := cr_bd_s h
      refine jc_Vi X.c (As := [.int x3_168]) (V1 := V) (C := RX8) (T := TX8) (N := 22) (ci := 8) 1 (m_X8_stepsOut l w V x3_168  r193 hr193) ⟨rfl, rfl⟩ ml_X8_148 im_X8_stepsOut sl_X8_stepsOut in_X8 cd_X8_stepsOut hd_X8_stepsOut ⟨Nat.le_of_ble_eq_true rfl, Nat.le_of_ble_eq_true rfl⟩ ⟨Nat.le_of_ble_eq_true rfl, Nat.le_of_ble_eq_true rfl⟩ rfl (Nat.le_of_ble_eq_true rfl) (by decide) ((cr_row_159 w) _) rfl rfl dX8_digest_193 ?_
      refine jr_goto X.c 202 dX8_digest_196 (by decide) ?_
      refine jr_i2l X.c dX8_digest_202 ?_
      refine jr_ladd X.c dX8_digest_203 ?_
      refine jr_lstore_n X.c (lv2 := [(1, .long (((31 : Int64) * x1_168) + r193.toInt64)), (0, .ref (w.1 159)), (3, .int x3_168)]) dX8_digest_204 rfl (by decide) rfl ?_
      refine jr_iinc X.c (v := (x3_168 + (1 : Int32))) (lv2 := [(3, .int (x3_168 + (1 : Int32))), (1, .long (((31 : Int64) * x1_168) + r193.toInt64)), (0, .ref (w.1 159))]) dX8_digest_205 2 rfl (by rfl) (by decide) rfl ?_
      refine jr_goto X.c 168 dX8_digest_208 (by decide) ?_
      cases h
      refine jr_sub [2, 1, 0] rfl ?_
      exact kl (((31 : Int64) * x1_168) + r193.toInt64) (x3_168 + (1 : Int32)) rfl
def f_X8_digest  (V : cr_Hp) : Option (Int64) :=
  cr_bd (cr_it (fun (q : Int64 × Int32) => f_X8_digest_l6  q.1 q.2 V) cr_FU ((4 : Int64), (0 : Int32))) (fun (u1_6_32 : Int64) => cr_bd (cr_it (fun (q : Int64 × Int32) => f_X8_digest_l34  q.1 q.2 V) cr_FU (u1_6_32, (0 : Int32))) (fun (u1_34_80 : Int64) => cr_bd (cr_it (fun (q : Int64 × Int32) => f_X8_digest_l82  q.1 q.2 V) cr_FU (u1_34_80, (0 : Int32))) (fun (u1_82_128 : Int64) => cr_bd (cr_it (fun (q : Int64 × Int32) => f_X8_digest_l130  q.1 q.2 V) cr_FU (u1_82_128, (0 : Int32))) (fun (u1_130_154 : Int64) => cr_bd (f_X8_findLeader  V) (fun (r160 : Int32) => cr_bd (cr_it (fun (q : Int64 × Int32) => f_X8_digest_l168  q.1 q.2 V) cr_FU ((((31 : Int64) * u1_130_154) + r160.toInt64), (0 : Int32))) (fun (u1_168_211 : Int64) => some u1_168_211))))))
set_option maxRecDepth 100000 in
set_option maxHeartbeats 4000000 in
theorem t_X8_digest {p : Program} {l : Launch} {e : Env} {s : State} {m : MethodId} {args : Array Value} {below : List Frame} {meth : Method} {c : Code} {w : cr_Wd} (X : cr_Cx w RX8 (Cond.code yX8_digest cX8_digest 5 (some .long)) cX8_digest 5 p s m args meth c)  (V : cr_Hp)  (hr0 : meth.sig.returnType = (some .long)) (x : Int64) (h : f_X8_digest  V = some x) : cr_J w 5 p l e rm_X8_digest s m args below meth c 0 0 (MQ below (cr_Ql w V x) args s 0 0 (cr_A w)) V 0 [(0, .ref (w.1 159))] [] := by
  unfold f_X8_digest at h
  refine jr_ldc2 X.c kl_X8_197 dX8_digest_0 ?_
  refine jr_lstore_n X.c (lv2 := [(1, .long (4 : Int64)), (0, .ref (w.1 159))]) dX8_digest_3 rfl (by decide) rfl ?_
  refine jr_iconst X.c (v := (0 : Int32)) dX8_digest_4 (by decide) ?_
  refine jr_istore_n X.c (lv2 := [(3, .int (0 : Int32)), (1, .long (4 : Int64)), (0, .ref (w.1 159))]) dX8_digest_5 rfl (by decide) rfl ?_
  obtain ⟨e6, he6, h⟩ := cr_bd_s h
  have kx32 : ∀ (u1_6_32 : Int64), e6 = u1_6_32 → cr_J w 5 p l e rm_X8_digest s m args below meth c 0 0 (MQ below (cr_Ql w V x) args s 0 0 (cr_A w)) V 32 [(0, .ref (w.1 159)), (1, .long u1_6_32)] [] := by
    intro u1_6_32 qx
    rw [qx] at h
    try simp only [cr_sm, cr_u2, cr_u3, cr_u4, cr_u5, cr_u6] at h
    refine jr_iconst X.c (v := (0 : Int32)) dX8_digest_32 (by decide) ?_
    refine jr_istore_n X.c (lv2 := [(3, .int (0 : Int32)), (0, .ref (w.1 159)), (1, .long u1_6_32)]) dX8_digest_33 rfl (by decide) rfl ?_
    obtain ⟨e34, he34, h⟩ := cr_bd_s h
    have kx80 : ∀ (u1_34_80 : Int64), e34 = u1_34_80 → cr_J w 5 p l e rm_X8_digest s m args below meth c 0 0 (MQ below (cr_Ql w V x) args s 0 0 (cr_A w)) V 80 [(0, .ref (w.1 159)), (1, .long u1_34_80)] [] := by
      intro u1_34_80 qx
      rw [qx] at h
      try simp only [cr_sm, cr_u2, cr_u3, cr_u4, cr_u5, cr_u6] at h
      refine jr_iconst X.c (v := (0 : Int32)) dX8_digest_80 (by decide) ?_
      refine jr_istore_n X.c (lv2 := [(3, .int (0 : Int32)), (0, .ref (w.1 159)), (1, .long u1_34_80)]) dX8_digest_81 rfl (by decide) rfl ?_
      obtain ⟨e82, he82, h⟩ := cr_bd_s h
      have kx128 : ∀ (u1_82_128 : Int64), e82 = u1_82_128 → cr_J w 5 p l e rm_X8_digest s m args below meth c 0 0 (MQ below (cr_Ql w V x) args s 0 0 (cr_A w)) V 128 [(0, .ref (w.1 159)), (1, .long u1_82_128)] [] := by
        intro u1_82_128 qx
        rw [qx] at h
        try simp only [cr_sm, cr_u2, cr_u3, cr_u4, cr_u5, cr_u6] at h
        refine jr_iconst X.c (v := (0 : Int32)) dX8_digest_128 (by decide) ?_
        refine jr_istore_n X.c (lv2 := [(3, .int (0 : Int32)), (0, .ref (w.1 159)), (1, .long u1_82_128)]) dX8_digest_129 rfl (by decide) rfl ?_
        obtain ⟨e130, he130, h⟩ := cr_bd_s h
        have kx154 : ∀ (u1_130_154 : Int64), e130 = u1_130_154 → cr_J w 5 p l e rm_X8_digest s m args below meth c 0 0 (MQ below (cr_Ql w V x) args s 0 0 (cr_A w)) V 154 [(0, .ref (w.1 159)), (1, .long u1_130_154)] [] := by
          intro u1_130_154 qx
          rw [qx] at h
          try simp only [cr_sm, cr_u2, cr_u3, cr_u4, cr_u5, cr_u6] at h
          refine jr_ldc2 X.c kl_X8_199 dX8_digest_154 ?_
          refine jr_lload_n X.c dX8_digest_157 rfl 1 rfl ?_
          refine jr_lmul X.c dX8_digest_158 ?_
          refine jr_aload_n X.c dX8_digest_159 rfl 0 rfl ?_
          obtain ⟨r160, hr160, h⟩ := cr_bd_s h
          refine jc_Vi X.c (As := []) (V1 := V) (C := RX8) (T := TX8) (N := 22) (ci := 8) 0 (m_X8_findLeader l w V   r160 hr160) ⟨rfl, rfl⟩ ml_X8_144 im_X8_findLeader sl_X8_findLeader in_X8 cd_X8_findLeader hd_X8_findLeader ⟨Nat.le_of_ble_eq_true rfl, Nat.le_of_ble_eq_true rfl⟩ ⟨Nat.le_of_ble_eq_true rfl, Nat.le_of_ble_eq_true rfl⟩ rfl (Nat.le_of_ble_eq_true rfl) (by decide) ((cr_row_159 w) _) rfl rfl dX8_digest_160 ?_
          refine jr_i2l X.c dX8_digest_163 ?_
          refine jr_ladd X.c dX8_digest_164 ?_
          refine jr_lstore_n X.c (lv2 := [(1, .long (((31 : Int64) * u1_130_154) + r160.toInt64)), (0, .ref (w.1 159))]) dX8_digest_165 rfl (by decide) rfl ?_
          refine jr_iconst X.c (v := (0 : Int32)) dX8_digest_166 (by decide) ?_
          refine jr_istore_n X.c (lv2 := [(3, .int (0 : Int32)), (1, .long (((31 : Int64) * u1_130_154) + r160.toInt64)), (0, .ref (w.1 159))]) dX8_digest_167 rfl (by decide) rfl ?_
          obtain ⟨e168, he168, h⟩ := cr_bd_s h
          have kx211 : ∀ (u1_168_211 : Int64), e168 = u1_168_211 → cr_J w 5 p l e rm_X8_digest s m args below meth c 0 0 (MQ below (cr_Ql w V x) args s 0 0 (cr_A w)) V 211 [(1, .long u1_168_211)] [] := by
            intro u1_168_211 qx
            rw [qx] at h
            try simp only [cr_sm, cr_u2, cr_u3, cr_u4, cr_u5, cr_u6] at h
            refine jr_lload_n X.c dX8_digest_211 rfl 0 rfl ?_
            cases h
            exact jr_lret X.c hr0 dX8_digest_212
          refine jr_sub [2, 1, 0] rfl ?_
          refine cr_it_W (f := (fun (q : Int64 × Int32) => f_X8_digest_l168  q.1 q.2 V)) (P := fun (q : Int64 × Int32) => cr_J w 5 p l e rm_X8_digest s m args below meth c 0 0 (MQ below (cr_Ql w V x) args s 0 0 (cr_A w)) V 168 [(0, .ref (w.1 159)), (1, .long q.1), (3, .int q.2)] []) (K := fun z => z = e168) (fun q x hx kl kr => ?_) cr_FU ((((31 : Int64) * u1_130_154) + r160.toInt64), (0 : Int32)) e168 he168 rfl
          obtain ⟨x1_168, x3_168⟩ := q
          exact t_X8_digest_l168 X x1_168 x3_168 V  x hx (fun x1_168 x3_168 ez => kl _ ez) (fun u1_168_211 ez => kx211 u1_168_211 ((kr _ ez).symm))
        refine jr_sub [1, 2, 0] rfl ?_
        refine cr_it_W (f := (fun (q : Int64 × Int32) => f_X8_digest_l130  q.1 q.2 V)) (P := fun (q : Int64 × Int32) => cr_J w 5 p l e rm_X8_digest s m args below meth c 0 0 (MQ below (cr_Ql w V x) args s 0 0 (cr_A w)) V 130 [(0, .ref (w.1 159)), (1, .long q.1), (3, .int q.2)] []) (K := fun z => z = e130) (fun q x hx kl kr => ?_) cr_FU (u1_82_128, (0 : Int32)) e130 he130 rfl
        obtain ⟨x1_130, x3_130⟩ := q
        exact t_X8_digest_l130 X x1_130 x3_130 V  x hx (fun x1_130 x3_130 ez => kl _ ez) (fun u1_130_154 ez => kx154 u1_130_154 ((kr _ ez).symm))
      refine jr_sub [1, 2, 0] rfl ?_
      refine cr_it_W (f := (fun (q : Int64 × Int32) => f_X8_digest_l82  q.1 q.2 V)) (P := fun (q : Int64 × Int32) => cr_J w 5 p l e rm_X8_digest s m args below meth c 0 0 (MQ below (cr_Ql w V x) args s 0 0 (cr_A w)) V 82 [(0, .ref (w.1 159)), (1, .long q.1), (3, .int q.2)] []) (K := fun z => z = e82) (fun q x hx kl kr => ?_) cr_FU (u1_34_80, (0 : Int32)) e82 he82 rfl
      obtain ⟨x1_82, x3_82⟩ := q
      exact t_X8_digest_l82 X x1_82 x3_82 V  x hx (fun x1_82 x3_82 ez => kl _ ez) (fun u1_82_128 ez => kx128 u1_82_128 ((kr _ ez).symm))
    refine jr_sub [1, 2, 0] rfl ?_
    refine cr_it_W (f := (fun (q : Int64 × Int32) => f_X8_digest_l34  q.1 q.2 V)) (P := fun (q : Int64 × Int32) => cr_J w 5 p l e rm_X8_digest s m args below meth c 0 0 (MQ below (cr_Ql w V x) args s 0 0 (cr_A w)) V 34 [(0, .ref (w.1 159)), (1, .long q.1), (3, .int q.2)] []) (K := fun z => z = e34) (fun q x hx kl kr => ?_) cr_FU (u1_6_32, (0 : Int32)) e34 he34 rfl
    obtain ⟨x1_34, x3_34⟩ := q
    exact t_X8_digest_l34 X x1_34 x3_34 V  x hx (fun x1_34 x3_34 ez => kl _ ez) (fun u1_34_80 ez => kx80 u1_34_80 ((kr _ ez).symm))
  refine jr_sub [2, 1, 0] rfl ?_
  refine cr_it_W (f := (fun (q : Int64 × Int32) => f_X8_digest_l6  q.1 q.2 V)) (P := fun (q : Int64 × Int32) => cr_J w 5 p l e rm_X8_digest s m args below meth c 0 0 (MQ below (cr_Ql w V x) args s 0 0 (cr_A w)) V 6 [(0, .ref (w.1 159)), (1, .long q.1), (3, .int q.2)] []) (K := fun z => z = e6) (fun q x hx kl kr => ?_) cr_FU ((4 : Int64), (0 : Int32)) e6 he6 rfl
  obtain ⟨x1_6, x3_6⟩ := q
  exact t_X8_digest_l6 X x1_6 x3_6 V  x hx (fun x1_6 x3_6 ez => kl _ ez) (fun u1_6_32 ez => kx32 u1_6_32 ((kr _ ez).symm))
set_option maxRecDepth 100000 in
set_option maxHeartbeats 4000000 in
theorem m_X8_digest (l : Launch) (w : cr_Wd) (V : cr_Hp)   (x : Int64) (h : f_X8_digest  V = some x) : Met l yX8_digest (cr_wds yX8_digest cX8_digest 5 (some .long)) rm_X8_digest (cr_Pc w V [.ref (w.1 159)]) (cr_Ql w V x) 0 0 (cr_A w) := by
  refine cr_met (own := RX8) (lv := [(0, .ref (w.1 159))]) (by decide +kernel) rfl (Nat.le_of_ble_eq_true rfl) rfl (fun p e s m args below meth c X hr0 => ?_)
  exact t_X8_digest X  V  hr0 x h
