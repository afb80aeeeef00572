abbrev rm_X7_clearText : Room := { frames := 0, cells := 0, slots := 0, locals := 0 }
theorem hd_X7_clearText : yX7_clearText.cls = RX7 ∧ yX7_clearText.cls ≠ "java/lang/invoke/MethodHandle" ∧ yX7_clearText.cls ≠ "java/lang/invoke/VarHandle" ∧ (parseMethodDescriptor yX7_clearText.desc).map (fun d => d.parameters.length) = some 0 := by decide +kernel
def f_X7_clearText  (V : cr_Hp) : Option (Int32 × cr_Hp) :=
  cr_lt ((V 157 1)) (fun (n10 : Int32) => cr_lt (cr_pt V 157 1 (0 : Int32)) (fun (V19 : cr_Hp) => some (n10, V19)))
set_option maxRecDepth 100000 in
set_option maxHeartbeats 4000000 in
theorem t_X7_clearText {p : Program} {l : Launch} {e : Env} {s : State} {m : MethodId} {args : Array Value} {below : List Frame} {meth : Method} {c : Code} {w : cr_Wd} (X : cr_Cx w RX7 (Cond.code yX7_clearText cX7_clearText 2 (some .int)) cX7_clearText 2 p s m args meth c)  (V : cr_Hp)  (hr0 : meth.sig.returnType = (some .int)) (x : Int32 × cr_Hp) (h : f_X7_clearText  V = some x) : cr_J w 2 p l e rm_X7_clearText s m args below meth c 0 0 (MQ below (cr_Qi w x.2 x.1) args s 0 0 (cr_A w)) V 0 [(0, .ref (w.1 152))] [] := by
  unfold f_X7_clearText at h
  refine jr_aload_n X.c dX7_clearText_0 rfl 0 rfl ?_
  refine jr_get X.c (ci := 7) (C := RX7) (T := TX7) (N := 5) (k := 4) rfl cr_in7 (by decide) ((cr_row_152 w) _) rfl (by decide) fl_X7_36 dX7_clearText_1 ?_
  refine jr_get X.c (ci := 1) (C := RX1) (T := TX1) (N := 9) (k := 0) rfl cr_in1 (by decide) ((cr_row_156 w) _) rfl (by decide) fl_X7_197 dX7_clearText_4 ?_
  refine jr_get X.c (ci := 6) (C := RX6) (T := TX6) (N := 2) (k := 1) rfl cr_in6 (by decide) ((cr_row_157 w) _) rfl (by decide) fl_X7_207 dX7_clearText_7 ?_
  obtain ⟨n10, en10, h⟩ := cr_lt_s h
  refine jr_top en10 ?_
  refine jr_istore_n X.c (lv2 := [(1, .int n10), (0, .ref (w.1 152))]) dX7_clearText_10 rfl (by decide) rfl ?_
  refine jr_aload_n X.c dX7_clearText_11 rfl 1 rfl ?_
  refine jr_get X.c (ci := 7) (C := RX7) (T := TX7) (N := 5) (k := 4) rfl cr_in7 (by decide) ((cr_row_152 w) _) rfl (by decide) fl_X7_36 dX7_clearText_12 ?_
  refine jr_get X.c (ci := 1) (C := RX1) (T := TX1) (N := 9) (k := 0) rfl cr_in1 (by decide) ((cr_row_156 w) _) rfl (by decide) fl_X7_197 dX7_clearText_15 ?_
  refine jr_iconst X.c (v := (0 : Int32)) dX7_clearText_18 (by decide) ?_
  obtain ⟨V19, eV19, h⟩ := cr_lt_s h
  refine jr_put X.c (ci := 6) (C := RX6) (T := TX6) (N := 2) (k := 1) rfl cr_in6 tyX6 tyX6_ok nmX6 (by decide) (cr_row_157 w) rfl (Nat.le_of_ble_eq_true rfl) (by decide) rfl rfl rfl fl_X7_207 dX7_clearText_19 eV19 ?_
  refine jr_iload_n X.c dX7_clearText_22 rfl 0 rfl ?_
  cases h
  exact jr_iret X.c hr0 dX7_clearText_23
set_option maxRecDepth 100000 in
set_option maxHeartbeats 4000000 in
theorem m_X7_clearText (l : Launch) (w : cr_Wd) (V : cr_Hp)   (x : Int32 × cr_Hp) (h : f_X7_clearText  V = some x) : Met l yX7_clearText (cr_wds yX7_clearText cX7_clearText 2 (some .int)) rm_X7_clearText (cr_Pc w V [.ref (w.1 152)]) (cr_Qi w x.2 x.1) 0 0 (cr_A w) := by
  refine cr_met (own := RX7) (lv := [(0, .ref (w.1 152))]) (by decide +kernel) rfl (Nat.le_of_ble_eq_true rfl) rfl (fun p e s m args below meth c X hr0 => ?_)
  exact t_X7_clearText X  V  hr0 x h
abbrev rm_X1_start : Room := { frames := 0, cells := 0, slots := 0, locals := 0 }
theorem hd_X1_start : yX1_start.cls = RX1 ∧ yX1_start.cls ≠ "java/lang/invoke/MethodHandle" ∧ yX1_start.cls ≠ "java/lang/invoke/VarHandle" ∧ (parseMethodDescriptor yX1_start.desc).map (fun d => d.parameters.length) = some 0 := by decide +kernel
def f_X1_start  (V : cr_Hp) : Option (cr_Hp) :=
  cr_lt (cr_pt V 156 1 (0 : Int32)) (fun (V2 : cr_Hp) => cr_lt (cr_pt V2 156 2 (0 : Int32)) (fun (V7 : cr_Hp) => some V7))
set_option maxRecDepth 100000 in
set_option maxHeartbeats 4000000 in
theorem t_X1_start {p : Program} {l : Launch} {e : Env} {s : State} {m : MethodId} {args : Array Value} {below : List Frame} {meth : Method} {c : Code} {w : cr_Wd} (X : cr_Cx w RX1 (Cond.code yX1_start cX1_start 1 none) cX1_start 1 p s m args meth c)  (V : cr_Hp)  (hr0 : meth.sig.returnType = none) (x : cr_Hp) (h : f_X1_start  V = some x) : cr_J w 1 p l e rm_X1_start s m args below meth c 0 0 (MQ below (cr_Qv w x) args s 0 0 (cr_A w)) V 0 [(0, .ref (w.1 156))] [] := by
  unfold f_X1_start at h
  refine jr_aload_n X.c dX1_start_0 rfl 0 rfl ?_
  refine jr_iconst X.c (v := (0 : Int32)) dX1_start_1 (by decide) ?_
  obtain ⟨V2, eV2, h⟩ := cr_lt_s h
  refine jr_put X.c (ci := 1) (C := RX1) (T := TX1) (N := 9) (k := 1) rfl cr_in1 tyX1 tyX1_ok nmX1 (by decide) (cr_row_156 w) rfl (Nat.le_of_ble_eq_true rfl) (by decide) rfl rfl rfl fl_X1_18 dX1_start_2 eV2 ?_
  refine jr_aload_n X.c dX1_start_5 rfl 0 rfl ?_
  refine jr_iconst X.c (v := (0 : Int32)) dX1_start_6 (by decide) ?_
  obtain ⟨V7, eV7, h⟩ := cr_lt_s h
  refine jr_put X.c (ci := 1) (C := RX1) (T := TX1) (N := 9) (k := 2) rfl cr_in1 tyX1 tyX1_ok nmX1 (by decide) (cr_row_156 w) rfl (Nat.le_of_ble_eq_true rfl) (by decide) rfl (by decide) (by decide) fl_X1_22 dX1_start_7 eV7 ?_
  cases h
  exact jr_vret X.c hr0 dX1_start_10
set_option maxRecDepth 100000 in
set_option maxHeartbeats 4000000 in
theorem m_X1_start (l : Launch) (w : cr_Wd) (V : cr_Hp)   (x : cr_Hp) (h : f_X1_start  V = some x) : Met l yX1_start (cr_wds yX1_start cX1_start 1 none) rm_X1_start (cr_Pc w V [.ref (w.1 156)]) (cr_Qv w x) 0 0 (cr_A w) := by
  refine cr_met (own := RX1) (lv := [(0, .ref (w.1 156))]) (by decide +kernel) rfl (Nat.le_of_ble_eq_true rfl) rfl (fun p e s m args below meth c X hr0 => ?_)
  exact t_X1_start X  V  hr0 x h
abbrev rm_X6_signAt : Room := { frames := 0, cells := 0, slots := 0, locals := 0 }
theorem hd_X6_signAt : yX6_signAt.cls = RX6 ∧ yX6_signAt.cls ≠ "java/lang/invoke/MethodHandle" ∧ yX6_signAt.cls ≠ "java/lang/invoke/VarHandle" ∧ (parseMethodDescriptor yX6_signAt.desc).map (fun d => d.parameters.length) = some 1 := by decide +kernel
def f_X6_signAt (x1 : Int32) (V : cr_Hp) : Option (Int32) :=
  if x1 < 0 then (some (-1 : Int32)) else (if (V 157 1) ≤ x1 then (some (-1 : Int32)) else (if x1 < (80 : Int32) then (cr_gd (cr_ix x1 80) (some (V 158 x1.toNatClampNeg))) else (some (-1 : Int32))))
set_option maxRecDepth 100000 in
set_option maxHeartbeats 4000000 in
theorem t_X6_signAt {p : Program} {l : Launch} {e : Env} {s : State} {m : MethodId} {args : Array Value} {below : List Frame} {meth : Method} {c : Code} {w : cr_Wd} (X : cr_Cx w RX6 (Cond.code yX6_signAt cX6_signAt 2 (some .int)) cX6_signAt 2 p s m args meth c) (x1 : Int32) (V : cr_Hp)  (hr0 : meth.sig.returnType = (some .int)) (x : Int32) (h : f_X6_signAt x1 V = some x) : cr_J w 2 p l e rm_X6_signAt s m args below meth c 0 0 (MQ below (cr_Qi w V x) args s 0 0 (cr_A w)) V 0 [(0, .ref (w.1 157)), (1, .int x1)] [] := by
  unfold f_X6_signAt at h
  refine jr_iload_n X.c dX6_signAt_0 rfl 1 rfl ?_
  refine jr_if_lt X.c 21 dX6_signAt_1 (by decide) (fun q1 => ?_) (fun q1 => ?_)
  · replace h := cr_if_t q1 h
    refine jr_iconst X.c (v := (-1 : Int32)) dX6_signAt_21 (by decide) ?_
    refine jr_goto X.c 31 dX6_signAt_22 (by decide) ?_
    cases h
    exact jr_iret X.c hr0 dX6_signAt_31
  · replace h := cr_if_f q1 h
    refine jr_iload_n X.c dX6_signAt_4 rfl 1 rfl ?_
    refine jr_aload_n X.c dX6_signAt_5 rfl 0 rfl ?_
    refine jr_get X.c (ci := 6) (C := RX6) (T := TX6) (N := 2) (k := 1) rfl cr_in6 (by decide) ((cr_row_157 w) _) rfl (by decide) fl_X6_15 dX6_signAt_6 ?_
    refine jr_icmp_ge X.c 21 dX6_signAt_9 (by decide) (fun q9 => ?_) (fun q9 => ?_)
    · replace h := cr_if_t q9 h
      refine jr_iconst X.c (v := (-1 : Int32)) dX6_signAt_21 (by decide) ?_
      refine jr_goto X.c 31 dX6_signAt_22 (by decide) ?_
      cases h
      exact jr_iret X.c hr0 dX6_signAt_31
    · replace h := cr_if_f q9 h
      refine jr_iload_n X.c dX6_signAt_12 rfl 1 rfl ?_
      refine jr_aload_n X.c dX6_signAt_13 rfl 0 rfl ?_
      refine jr_get X.c (ci := 6) (C := RX6) (T := TX6) (N := 2) (k := 0) rfl cr_in6 (by decide) ((cr_row_157 w) _) rfl (by decide) fl_X6_9 dX6_signAt_14 ?_
      refine jr_alen X.c (v := (80 : Int32)) 1 rfl (by decide) ((cr_row_158 w) _) rfl dX6_signAt_17 ?_
      refine jr_icmp_lt X.c 25 dX6_signAt_18 (by decide) (fun q18 => ?_) (fun q18 => ?_)
      · replace h := cr_if_t q18 h
        refine jr_aload_n X.c dX6_signAt_25 rfl 0 rfl ?_
        refine jr_get X.c (ci := 6) (C := RX6) (T := TX6) (N := 2) (k := 0) rfl cr_in6 (by decide) ((cr_row_157 w) _) rfl (by decide) fl_X6_9 dX6_signAt_26 ?_
        refine jr_iload_n X.c dX6_signAt_29 rfl 1 rfl ?_
        obtain ⟨hi30, h⟩ := cr_gd_s h
        refine jr_cald X.c (by decide) ((cr_row_158 w) _) hi30 dX6_signAt_30 ?_
        cases h
        exact jr_iret X.c hr0 dX6_signAt_31
      · replace h := cr_if_f q18 h
        refine jr_iconst X.c (v := (-1 : Int32)) dX6_signAt_21 (by decide) ?_
        refine jr_goto X.c 31 dX6_signAt_22 (by decide) ?_
        cases h
        exact jr_iret X.c hr0 dX6_signAt_31
set_option maxRecDepth 100000 in
set_option maxHeartbeats 4000000 in
theorem m_X6_signAt (l : Launch) (w : cr_Wd) (V : cr_Hp) (x1 : Int32)  (x : Int32) (h : f_X6_signAt x1 V = some x) : Met l yX6_signAt (cr_wds yX6_signAt cX6_signAt 2 (some .int)) rm_X6_signAt (cr_Pc w V [.ref (w.1 157), .int x1]) (cr_Qi w V x) 0 0 (cr_A w) := by
  refine cr_met (own := RX6) (lv := [(0, .ref (w.1 157)), (1, .int x1)]) (by decide +kernel) rfl (Nat.le_of_ble_eq_true rfl) rfl (fun p e s m args below meth c X hr0 => ?_)
  exact t_X6_signAt X x1 V  hr0 x h
abbrev rm_X1_take : Room := { frames := 1, cells := 0, slots := 0, locals := 21 }
theorem hd_X1_take : yX1_take.cls = RX1 ∧ yX1_take.cls ≠ "java/lang/invoke/MethodHandle" ∧ yX1_take.cls ≠ "java/lang/invoke/VarHandle" ∧ (parseMethodDescriptor yX1_take.desc).map (fun d => d.parameters.length) = some 1 := by decide +kernel
def f_X1_take (x1 : Int32) (V : cr_Hp) : Option (cr_Hp) :=
  if (V 156 2) = 0 then (cr_bd (f_X6_signAt (V 156 1) V) (fun (r16 : Int32) => if r16 = x1 then (cr_lt (cr_pt V 156 1 ((V 156 1) + (1 : Int32))) (fun (V30 : cr_Hp) => some V30)) else (cr_lt (cr_pt V 156 2 (1 : Int32)) (fun (V38 : cr_Hp) => some V38)))) else (some V)
set_option maxRecDepth 100000 in
set_option maxHeartbeats 4000000 in
theorem t_X1_take {p : Program} {l : Launch} {e : Env} {s : State} {m : MethodId} {args : Array Value} {below : List Frame} {meth : Method} {c : Code} {w : cr_Wd} (X : cr_Cx w RX1 (Cond.code yX1_take cX1_take 2 none) cX1_take 2 p s m args meth c) (x1 : Int32) (V : cr_Hp)  (hr0 : meth.sig.returnType = none) (x : cr_Hp) (h : f_X1_take x1 V = some x) : cr_J w 2 p l e rm_X1_take s m args below meth c 0 0 (MQ below (cr_Qv w x) args s 0 0 (cr_A w)) V 0 [(0, .ref (w.1 156)), (1, .int x1)] [] := by
  unfold f_X1_take at h
  refine jr_aload_n X.c dX1_take_0 rfl 0 rfl ?_
  refine jr_get X.c (ci := 1) (C := RX1) (T := TX1) (N := 9) (k := 2) rfl cr_in1 (by decide) ((cr_row_156 w) _) rfl (by decide) fl_X1_22 dX1_take_1 ?_
  refine jr_if_eq X.c 8 dX1_take_4 (by decide) (fun q4 => ?_) (fun q4 => ?_)
  · replace h := cr_if_t q4 h
    refine jr_aload_n X.c dX1_take_8 rfl 0 rfl ?_
    refine jr_get X.c (ci := 1) (C := RX1) (T := TX1) (N := 9) (k := 0) rfl cr_in1 (by decide) ((cr_row_156 w) _) rfl (by decide) fl_X1_12 dX1_take_9 ?_
    refine jr_aload_n X.c dX1_take_12 rfl 0 rfl ?_
    refine jr_get X.c (ci := 1) (C := RX1) (T := TX1) (N := 9) (k := 1) rfl cr_in1 (by decide) ((cr_row_156 w) _) rfl (by decide) fl_X1_18 dX1_take_13 ?_
    obtain ⟨r16, hr16, h⟩ := cr_bd_s h
    refine jc_Vi X.c (As := [.int (V 156 1)]) (V1 := V) (C := RX6) (T := TX6) (N := 2) (ci := 6) 1 (m_X6_signAt l w V (V 156 1)  r16 hr16) ⟨rfl, rfl⟩ ml_X1_33 im_X6_signAt sl_X6_signAt in_X6 cd_X6_signAt hd_X6_signAt ⟨Nat.le_of_ble_eq_true rfl, Nat.le_of_ble_eq_true rfl⟩ ⟨Nat.le_of_ble_eq_true rfl, Nat.le_of_ble_eq_true rfl⟩ rfl (Nat.le_of_ble_eq_true rfl) (by decide) ((cr_row_157 w) _) rfl rfl dX1_take_16 ?_
    refine jr_iload_n X.c dX1_take_19 rfl 1 rfl ?_
    refine jr_icmp_ne X.c 36 dX1_take_20 (by decide) (fun q20 => ?_) (fun q20 => ?_)
    · replace h := cr_if_f q20 h
      refine jr_aload_n X.c dX1_take_36 rfl 0 rfl ?_
      refine jr_iconst X.c (v := (1 : Int32)) dX1_take_37 (by decide) ?_
      obtain ⟨V38, eV38, h⟩ := cr_lt_s h
      refine jr_put X.c (ci := 1) (C := RX1) (T := TX1) (N := 9) (k := 2) rfl cr_in1 tyX1 tyX1_ok nmX1 (by decide) (cr_row_156 w) rfl (Nat.le_of_ble_eq_true rfl) (by decide) rfl (by decide) (by decide) fl_X1_22 dX1_take_38 eV38 ?_
      cases h
      exact jr_vret X.c hr0 dX1_take_41
    · replace h := cr_if_t q20 h
      refine jr_aload_n X.c dX1_take_23 rfl 0 rfl ?_
      refine jr_dup X.c dX1_take_24 rfl ?_
      refine jr_get X.c (ci := 1) (C := RX1) (T := TX1) (N := 9) (k := 1) rfl cr_in1 (by decide) ((cr_row_156 w) _) rfl (by decide) fl_X1_18 dX1_take_25 ?_
      refine jr_iconst X.c (v := (1 : Int32)) dX1_take_28 (by decide) ?_
      refine jr_iadd X.c dX1_take_29 ?_
      obtain ⟨V30, eV30, h⟩ := cr_lt_s h
      refine jr_put X.c (ci := 1) (C := RX1) (T := TX1) (N := 9) (k := 1) rfl cr_in1 tyX1 tyX1_ok nmX1 (by decide) (cr_row_156 w) rfl (Nat.le_of_ble_eq_true rfl) (by decide) rfl rfl rfl fl_X1_18 dX1_take_30 eV30 ?_
      refine jr_goto X.c 41 dX1_take_33 (by decide) ?_
      cases h
      exact jr_vret X.c hr0 dX1_take_41
  · replace h := cr_if_f q4 h
    cases h
    exact jr_vret X.c hr0 dX1_take_7
set_option maxRecDepth 100000 in
set_option maxHeartbeats 4000000 in
theorem m_X1_take (l : Launch) (w : cr_Wd) (V : cr_Hp) (x1 : Int32)  (x : cr_Hp) (h : f_X1_take x1 V = some x) : Met l yX1_take (cr_wds yX1_take cX1_take 2 none) rm_X1_take (cr_Pc w V [.ref (w.1 156), .int x1]) (cr_Qv w x) 0 0 (cr_A w) := by
  refine cr_met (own := RX1) (lv := [(0, .ref (w.1 156)), (1, .int x1)]) (by decide +kernel) rfl (Nat.le_of_ble_eq_true rfl) rfl (fun p e s m args below meth c X hr0 => ?_)
  exact t_X1_take X x1 V  hr0 x h
abbrev rm_X1_digitAt : Room := { frames := 1, cells := 0, slots := 0, locals := 21 }
theorem hd_X1_digitAt : yX1_digitAt.cls = RX1 ∧ yX1_digitAt.cls ≠ "java/lang/invoke/MethodHandle" ∧ yX1_digitAt.cls ≠ "java/lang/invoke/VarHandle" ∧ (parseMethodDescriptor yX1_digitAt.desc).map (fun d => d.parameters.length) = some 1 := by decide +kernel
def f_X1_digitAt (x1 : Int32) (V : cr_Hp) : Option (Int32) :=
  cr_bd (f_X6_signAt x1 V) (fun (r5 : Int32) => if r5 < (48 : Int32) then (some (-1 : Int32)) else (if r5 ≤ (57 : Int32) then (some (r5 - (48 : Int32))) else (some (-1 : Int32))))
set_option maxRecDepth 100000 in
set_option maxHeartbeats 4000000 in
theorem t_X1_digitAt {p : Program} {l : Launch} {e : Env} {s : State} {m : MethodId} {args : Array Value} {below : List Frame} {meth : Method} {c : Code} {w : cr_Wd} (X : cr_Cx w RX1 (Cond.code yX1_digitAt cX1_digitAt 3 (some .int)) cX1_digitAt 3 p s m args meth c) (x1 : Int32) (V : cr_Hp)  (hr0 : meth.sig.returnType = (some .int)) (x : Int32) (h : f_X1_digitAt x1 V = some x) : cr_J w 3 p l e rm_X1_digitAt s m args below meth c 0 0 (MQ below (cr_Qi w V x) args s 0 0 (cr_A w)) V 0 [(0, .ref (w.1 156)), (1, .int x1)] [] := by
  unfold f_X1_digitAt at h
  refine jr_aload_n X.c dX1_digitAt_0 rfl 0 rfl ?_
  refine jr_get X.c (ci := 1) (C := RX1) (T := TX1) (N := 9) (k := 0) rfl cr_in1 (by decide) ((cr_row_156 w) _) rfl (by decide) fl_X1_12 dX1_digitAt_1 ?_
  refine jr_iload_n X.c dX1_digitAt_4 rfl 1 rfl ?_
  obtain ⟨r5, hr5, h⟩ := cr_bd_s h
  refine jc_Vi X.c (As := [.int x1]) (V1 := V) (C := RX6) (T := TX6) (N := 2) (ci := 6) 1 (m_X6_signAt l w V x1  r5 hr5) ⟨rfl, rfl⟩ ml_X1_33 im_X6_signAt sl_X6_signAt in_X6 cd_X6_signAt hd_X6_signAt ⟨Nat.le_of_ble_eq_true rfl, Nat.le_of_ble_eq_true rfl⟩ ⟨Nat.le_of_ble_eq_true rfl, Nat.le_of_ble_eq_true rfl⟩ rfl (Nat.le_of_ble_eq_true rfl) (by decide) ((cr_row_157 w) _) rfl rfl dX1_digitAt_5 ?_
  refine jr_istore_n X.c (lv2 := [(2, .int r5), (0, .ref (w.1 156)), (1, .int x1)]) dX1_digitAt_8 rfl (by decide) rfl ?_
  refine jr_iload_n X.c dX1_digitAt_9 rfl 0 rfl ?_
  refine jr_bipush X.c (v := (48 : Int32)) dX1_digitAt_10 (by decide) ?_
  refine jr_icmp_lt X.c 21 dX1_digitAt_12 (by decide) (fun q12 => ?_) (fun q12 => ?_)
  · replace h := cr_if_t q12 h
    refine jr_iconst X.c (v := (-1 : Int32)) dX1_digitAt_21 (by decide) ?_
    refine jr_goto X.c 29 dX1_digitAt_22 (by decide) ?_
    cases h
    exact jr_iret X.c hr0 dX1_digitAt_29
  · replace h := cr_if_f q12 h
    refine jr_iload_n X.c dX1_digitAt_15 rfl 0 rfl ?_
    refine jr_bipush X.c (v := (57 : Int32)) dX1_digitAt_16 (by decide) ?_
    refine jr_icmp_le X.c 25 dX1_digitAt_18 (by decide) (fun q18 => ?_) (fun q18 => ?_)
    · replace h := cr_if_t q18 h
      refine jr_iload_n X.c dX1_digitAt_25 rfl 0 rfl ?_
      refine jr_bipush X.c (v := (48 : Int32)) dX1_digitAt_26 (by decide) ?_
      refine jr_isub X.c dX1_digitAt_28 ?_
      cases h
      exact jr_iret X.c hr0 dX1_digitAt_29
    · replace h := cr_if_f q18 h
      refine jr_iconst X.c (v := (-1 : Int32)) dX1_digitAt_21 (by decide) ?_
      refine jr_goto X.c 29 dX1_digitAt_22 (by decide) ?_
      cases h
      exact jr_iret X.c hr0 dX1_digitAt_29
set_option maxRecDepth 100000 in
set_option maxHeartbeats 4000000 in
theorem m_X1_digitAt (l : Launch) (w : cr_Wd) (V : cr_Hp) (x1 : Int32)  (x : Int32) (h : f_X1_digitAt x1 V = some x) : Met l yX1_digitAt (cr_wds yX1_digitAt cX1_digitAt 3 (some .int)) rm_X1_digitAt (cr_Pc w V [.ref (w.1 156), .int x1]) (cr_Qi w V x) 0 0 (cr_A w) := by
  refine cr_met (own := RX1) (lv := [(0, .ref (w.1 156)), (1, .int x1)]) (by decide +kernel) rfl (Nat.le_of_ble_eq_true rfl) rfl (fun p e s m args below meth c X hr0 => ?_)
  exact t_X1_digitAt X x1 V  hr0 x h
abbrev rm_X1_takeNumber : Room := { frames := 2, cells := 0, slots := 0, locals := 43 }
theorem hd_X1_takeNumber : yX1_takeNumber.cls = RX1 ∧ yX1_takeNumber.cls ≠ "java/lang/invoke/MethodHandle" ∧ yX1_takeNumber.cls ≠ "java/lang/invoke/VarHandle" ∧ (parseMethodDescriptor yX1_takeNumber.desc).map (fun d => d.parameters.length) = some 2 := by decide +kernel
def f_X1_takeNumber_l46 (x2 : Int32) (x3_46 : Int32) (x4_46 : Int32) (V_l46 : cr_Hp) : Option ((Int32 × Int32 × cr_Hp) ⊕ ((Int32 × cr_Hp) ⊕ (Int32 × cr_Hp))) :=
  if (80 : Int32) ≤ x4_46 then (some (.inr (.inr (x3_46, V_l46)))) else (if x3_46 ≤ 0 then (some (.inr (.inr (x3_46, V_l46)))) else (cr_bd (f_X1_digitAt (V_l46 156 1) V_l46) (fun (r62 : Int32) => if r62 < 0 then (some (.inr (.inr (x3_46, V_l46)))) else (if ((x3_46 * (10 : Int32)) + r62) ≤ x2 then (cr_lt (cr_pt V_l46 156 1 ((V_l46 156 1) + (1 : Int32))) (fun (V101 : cr_Hp) => some (.inl (((x3_46 * (10 : Int32)) + r62), (x4_46 + (1 : Int32)), V101)))) else (some (.inr (.inl (x3_46, V_l46))))))))
set_option maxRecDepth 100000 in
set_option maxHeartbeats 4000000 in
theorem t_X1_takeNumber_l46 {p : Program} {l : Launch} {e : Env} {s : State} {m : MethodId} {args : Array Value} {below : List Frame} {meth : Method} {c : Code} {w : cr_Wd} {Q : State → Prop} (X : cr_Cx w RX1 (Cond.code yX1_takeNumber cX1_takeNumber 6 (some .int)) cX1_takeNumber 6 p s m args meth c) (x2 : Int32) (x3_46 : Int32) (x4_46 : Int32) (V_l46 : cr_Hp)  (x : (Int32 × Int32 × cr_Hp) ⊕ ((Int32 × cr_Hp) ⊕ (Int32 × cr_Hp))) (h : f_X1_takeNumber_l46 x2 x3_46 x4_46 V_l46 = some x) (kl : ∀ (x3_46 : Int32) (x4_46 : Int32) (V_l46 : cr_Hp), x = .inl (x3_46, x4_46, V_l46) → cr_J w 6 p l e rm_X1_takeNumber s m args below meth c 0 0 Q V_l46 46 [(0, .ref (w.1 156)), (2, .int x2), (3, .int x3_46), (4, .int x4_46)] []) (kr83 : ∀ (u3_46_83 : Int32) (V_e46_83 : cr_Hp), x = .inr (.inl (u3_46_83, V_e46_83)) → cr_J w 6 p l e rm_X1_takeNumber s m args below meth c 0 0 Q V_e46_83 83 [(3, .int u3_46_83)] []) (kr110 : ∀ (u3_46_110 : Int32) (V_e46_110 : cr_Hp), x = .inr (.inr (u3_46_110, V_e46_110)) → cr_J w 6 p l e rm_X1_takeNumber s m args below meth c 0 0 Q V_e46_110 110 [(3, .int u3_46_110)] []) : cr_J w 6 p l e rm_X1_takeNumber s m args below meth c 0 0 Q V_l46 46 [(0, .ref (w.1 156)), (2, .int x2), (3, .int x3_46), (4, .int x4_46)] [] := by
  unfold f_X1_takeNumber_l46 at h
  refine jr_iload X.c dX1_takeNumber_46 3 rfl ?_
  refine jr_bipush X.c (v := (80 : Int32)) dX1_takeNumber_48 (by decide) ?_
  refine jr_icmp_ge X.c 110 dX1_takeNumber_50 (by decide) (fun q50 => ?_) (fun q50 => ?_)
  · replace h := cr_if_t q50 h
    cases h
    refine jr_sub [2] rfl ?_
    exact kr110 x3_46 V_l46 rfl
  · replace h := cr_if_f q50 h
    refine jr_iload_n X.c dX1_takeNumber_53 rfl 2 rfl ?_
    refine jr_if_le X.c 110 dX1_takeNumber_54 (by decide) (fun q54 => ?_) (fun q54 => ?_)
    · replace h := cr_if_t q54 h
      cases h
      refine jr_sub [2] rfl ?_
      exact kr110 x3_46 V_l46 rfl
    · replace h := cr_if_f q54 h
      refine jr_aload_n X.c dX1_takeNumber_57 rfl 0 rfl ?_
      refine jr_aload_n X.c dX1_takeNumber_58 rfl 0 rfl ?_
      refine jr_get X.c (ci := 1) (C := RX1) (T := TX1) (N := 9) (k := 1) rfl cr_in1 (by decide) ((cr_row_156 w) _) rfl (by decide) fl_X1_18 dX1_takeNumber_59 ?_
      obtain ⟨r62, hr62, h⟩ := cr_bd_s h
      refine jc_Vi X.c (As := [.int (V_l46 156 1)]) (V1 := V_l46) (C := RX1) (T := TX1) (N := 9) (ci := 1) 1 (m_X1_digitAt l w V_l46 (V_l46 156 1)  r62 hr62) ⟨rfl, rfl⟩ ml_X1_59 im_X1_digitAt sl_X1_digitAt in_X1 cd_X1_digitAt hd_X1_digitAt ⟨Nat.le_of_ble_eq_true rfl, Nat.le_of_ble_eq_true rfl⟩ ⟨Nat.le_of_ble_eq_true rfl, Nat.le_of_ble_eq_true rfl⟩ rfl (Nat.le_of_ble_eq_true rfl) (by decide) ((cr_row_156 w) _) rfl rfl dX1_takeNumber_62 ?_
      refine jr_istore X.c (lv2 := [(5, .int r62), (0, .ref (w.1 156)), (2, .int x2), (3, .int x3_46), (4, .int x4_46)]) dX1_takeNumber_65 (by decide) rfl ?_
      refine jr_iload X.c dX1_takeNumber_67 0 rfl ?_
      refine jr_if_lt X.c 110 dX1_takeNumber_69 (by decide) (fun q69 => ?_) (fun q69 => ?_)
      · replace h := cr_if_t q69 h
        cases h
        refine jr_sub [3] rfl ?_
        exact kr110 x3_46 V_l46 rfl
      · replace h := cr_if_f q69 h
        refine jr_iload_n X.c dX1_takeNumber_72 rfl 3 rfl ?_
        refine jr_bipush X.c (v := (10 : Int32)) dX1_takeNumber_73 (by decide) ?_
        refine jr_imul X.c dX1_takeNumber_75 ?_
        refine jr_iload X.c dX1_takeNumber_76 0 rfl ?_
        refine jr_iadd X.c dX1_takeNumber_78 ?_
        refine jr_iload_n X.c dX1_takeNumber_79 rfl 2 rfl ?_
        refine jr_icmp_le X.c 86 dX1_takeNumber_80 (by decide) (fun q80 => ?_) (fun q80 => ?_)
        · replace h := cr_if_t q80 h
          refine jr_iload_n X.c dX1_takeNumber_86 rfl 3 rfl ?_
          refine jr_bipush X.c (v := (10 : Int32)) dX1_takeNumber_87 (by decide) ?_
          refine jr_imul X.c dX1_takeNumber_89 ?_
          refine jr_iload X.c dX1_takeNumber_90 0 rfl ?_
          refine jr_iadd X.c dX1_takeNumber_92 ?_
          refine jr_istore_n X.c (lv2 := [(3, .int ((x3_46 * (10 : Int32)) + r62)), (5, .int r62), (0, .ref (w.1 156)), (2, .int x2), (4, .int x4_46)]) dX1_takeNumber_93 rfl (by decide) rfl ?_
          refine jr_aload_n X.c dX1_takeNumber_94 rfl 2 rfl ?_
          refine jr_dup X.c dX1_takeNumber_95 rfl ?_
          refine jr_get X.c (ci := 1) (C := RX1) (T := TX1) (N := 9) (k := 1) rfl cr_in1 (by decide) ((cr_row_156 w) _) rfl (by decide) fl_X1_18 dX1_takeNumber_96 ?_
          refine jr_iconst X.c (v := (1 : Int32)) dX1_takeNumber_99 (by decide) ?_
          refine jr_iadd X.c dX1_takeNumber_100 ?_
          obtain ⟨V101, eV101, h⟩ := cr_lt_s h
          refine jr_put X.c (ci := 1) (C := RX1) (T := TX1) (N := 9) (k := 1) rfl cr_in1 tyX1 tyX1_ok nmX1 (by decide) (cr_row_156 w) rfl (Nat.le_of_ble_eq_true rfl) (by decide) rfl rfl rfl fl_X1_18 dX1_takeNumber_101 eV101 ?_
          refine jr_iinc X.c (v := (x4_46 + (1 : Int32))) (lv2 := [(4, .int (x4_46 + (1 : Int32))), (3, .int ((x3_46 * (10 : Int32)) + r62)), (5, .int r62), (0, .ref (w.1 156)), (2, .int x2)]) dX1_takeNumber_104 4 rfl (by rfl) (by decide) rfl ?_
          refine jr_goto X.c 46 dX1_takeNumber_107 (by decide) ?_
          cases h
          refine jr_sub [3, 4, 1, 0] rfl ?_
          exact kl ((x3_46 * (10 : Int32)) + r62) (x4_46 + (1 : Int32)) V101 rfl
        · replace h := cr_if_f q80 h
          cases h
          refine jr_sub [3] rfl ?_
          exact kr83 x3_46 V_l46 rfl
def f_X1_takeNumber (x1 : Int32) (x2 : Int32) (V : cr_Hp) : Option (Int32 × cr_Hp) :=
  cr_bd (f_X1_digitAt (V 156 1) V) (fun (r5 : Int32) => if (V 156 2) = 0 then (if r5 < x1 then (cr_lt (cr_pt V 156 2 (1 : Int32)) (fun (V28 : cr_Hp) => some (x1, V28))) else (if r5 ≤ x2 then (cr_lt (cr_pt V 156 1 ((V 156 1) + (1 : Int32))) (fun (V40 : cr_Hp) => cr_bd (cr_it (fun (q : Int32 × Int32 × cr_Hp) => f_X1_takeNumber_l46 x2 q.1 q.2.1 q.2.2) cr_FU (r5, (0 : Int32), V40)) (cr_sm (cr_u2 (fun (u3_46_83 : Int32) (V_e46_83 : cr_Hp) => some (u3_46_83, V_e46_83))) (cr_u2 (fun (u3_46_110 : Int32) (V_e46_110 : cr_Hp) => some (u3_46_110, V_e46_110)))))) else (cr_lt (cr_pt V 156 2 (1 : Int32)) (fun (V28 : cr_Hp) => some (x1, V28))))) else (cr_lt (cr_pt V 156 2 (1 : Int32)) (fun (V28 : cr_Hp) => some (x1, V28))))
set_option maxRecDepth 100000 in
set_option maxHeartbeats 4000000 in
theorem t_X1_takeNumber {p : Program} {l : Launch} {e : Env} {s : State} {m : MethodId} {args : Array Value} {below : List Frame} {meth : Method} {c : Code} {w : cr_Wd} (X : cr_Cx w RX1 (Cond.code yX1_takeNumber cX1_takeNumber 6 (some .int)) cX1_takeNumber 6 p s m args meth c) (x1 : Int32) (x2 : Int32) (V : cr_Hp)  (hr0 : meth.sig.returnType = (some .int)) (x : Int32 × cr_Hp) (h : f_X1_takeNumber x1 x2 V = some x) : cr_J w 6 p l e rm_X1_takeNumber s m args below meth c 0 0 (MQ below (cr_Qi w x.2 x.1) args s 0 0 (cr_A w)) V 0 [(0, .ref (w.1 156)), (1, .int x1), (2, .int x2)] [] := by
  unfold f_X1_takeNumber at h
  refine jr_aload_n X.c dX1_takeNumber_0 rfl 0 rfl ?_
  refine jr_aload_n X.c dX1_takeNumber_1 rfl 0 rfl ?_
  refine jr_get X.c (ci := 1) (C := RX1) (T := TX1) (N := 9) (k := 1) rfl cr_in1 (by decide) ((cr_row_156 w) _) rfl (by decide) fl_X1_18 dX1_takeNumber_2 ?_
  obtain ⟨r5, hr5, h⟩ := cr_bd_s h
  refine jc_Vi X.c (As := [.int (V 156 1)]) (V1 := V) (C := RX1) (T := TX1) (N := 9) (ci := 1) 1 (m_X1_digitAt l w V (V 156 1)  r5 hr5) ⟨rfl, rfl⟩ ml_X1_59 im_X1_digitAt sl_X1_digitAt in_X1 cd_X1_digitAt hd_X1_digitAt ⟨Nat.le_of_ble_eq_true rfl, Nat.le_of_ble_eq_true rfl⟩ ⟨Nat.le_of_ble_eq_true rfl, Nat.le_of_ble_eq_true rfl⟩ rfl (Nat.le_of_ble_eq_true rfl) (by decide) ((cr_row_156 w) _) rfl rfl dX1_takeNumber_5 ?_
  refine jr_istore_n X.c (lv2 := [(3, .int r5), (0, .ref (w.1 156)), (1, .int x1), (2, .int x2)]) dX1_takeNumber_8 rfl (by decide) rfl ?_
  refine jr_aload_n X.c dX1_takeNumber_9 rfl 1 rfl ?_
  refine jr_get X.c (ci := 1) (C := RX1) (T := TX1) (N := 9) (k := 2) rfl cr_in1 (by decide) ((cr_row_156 w) _) rfl (by decide) fl_X1_22 dX1_takeNumber_10 ?_
  refine jr_if_ne X.c 26 dX1_takeNumber_13 (by decide) (fun q13 => ?_) (fun q13 => ?_)
  · replace h := cr_if_f q13 h
    refine jr_aload_n X.c dX1_takeNumber_26 rfl 1 rfl ?_
    refine jr_iconst X.c (v := (1 : Int32)) dX1_takeNumber_27 (by decide) ?_
    obtain ⟨V28, eV28, h⟩ := cr_lt_s h
    refine jr_put X.c (ci := 1) (C := RX1) (T := TX1) (N := 9) (k := 2) rfl cr_in1 tyX1 tyX1_ok nmX1 (by decide) (cr_row_156 w) rfl (Nat.le_of_ble_eq_true rfl) (by decide) rfl (by decide) (by decide) fl_X1_22 dX1_takeNumber_28 eV28 ?_
    refine jr_iload_n X.c dX1_takeNumber_31 rfl 2 rfl ?_
    cases h
    exact jr_iret X.c hr0 dX1_takeNumber_32
  · replace h := cr_if_t q13 h
    refine jr_iload_n X.c dX1_takeNumber_16 rfl 0 rfl ?_
    refine jr_iload_n X.c dX1_takeNumber_17 rfl 2 rfl ?_
    refine jr_icmp_lt X.c 26 dX1_takeNumber_18 (by decide) (fun q18 => ?_) (fun q18 => ?_)
    · replace h := cr_if_t q18 h
      refine jr_aload_n X.c dX1_takeNumber_26 rfl 1 rfl ?_
      refine jr_iconst X.c (v := (1 : Int32)) dX1_takeNumber_27 (by decide) ?_
      obtain ⟨V28, eV28, h⟩ := cr_lt_s h
      refine jr_put X.c (ci := 1) (C := RX1) (T := TX1) (N := 9) (k := 2) rfl cr_in1 tyX1 tyX1_ok nmX1 (by decide) (cr_row_156 w) rfl (Nat.le_of_ble_eq_true rfl) (by decide) rfl (by decide) (by decide) fl_X1_22 dX1_takeNumber_28 eV28 ?_
      refine jr_iload_n X.c dX1_takeNumber_31 rfl 2 rfl ?_
      cases h
      exact jr_iret X.c hr0 dX1_takeNumber_32
    · replace h := cr_if_f q18 h
      refine jr_iload_n X.c dX1_takeNumber_21 rfl 0 rfl ?_
      refine jr_iload_n X.c dX1_takeNumber_22 rfl 3 rfl ?_
      refine jr_icmp_le X.c 33 dX1_takeNumber_23 (by decide) (fun q23 => ?_) (fun q23 => ?_)
      · replace h := cr_if_t q23 h
        refine jr_aload_n X.c dX1_takeNumber_33 rfl 1 rfl ?_
        refine jr_dup X.c dX1_takeNumber_34 rfl ?_
        refine jr_get X.c (ci := 1) (C := RX1) (T := TX1) (N := 9) (k := 1) rfl cr_in1 (by decide) ((cr_row_156 w) _) rfl (by decide) fl_X1_18 dX1_takeNumber_35 ?_
        refine jr_iconst X.c (v := (1 : Int32)) dX1_takeNumber_38 (by decide) ?_
        refine jr_iadd X.c dX1_takeNumber_39 ?_
        obtain ⟨V40, eV40, h⟩ := cr_lt_s h
        refine jr_put X.c (ci := 1) (C := RX1) (T := TX1) (N := 9) (k := 1) rfl cr_in1 tyX1 tyX1_ok nmX1 (by decide) (cr_row_156 w) rfl (Nat.le_of_ble_eq_true rfl) (by decide) rfl rfl rfl fl_X1_18 dX1_takeNumber_40 eV40 ?_
        refine jr_iconst X.c (v := (0 : Int32)) dX1_takeNumber_43 (by decide) ?_
        refine jr_istore X.c (lv2 := [(4, .int (0 : Int32)), (3, .int r5), (0, .ref (w.1 156)), (1, .int x1), (2, .int x2)]) dX1_takeNumber_44 (by decide) rfl ?_
        obtain ⟨e46, he46, h⟩ := cr_bd_s h
        have kx83 : ∀ (u3_46_83 : Int32) (V_e46_83 : cr_Hp), e46 = (.inl (u3_46_83, V_e46_83)) → cr_J w 6 p l e rm_X1_takeNumber s m args below meth c 0 0 (MQ below (cr_Qi w x.2 x.1) args s 0 0 (cr_A w)) V_e46_83 83 [(3, .int u3_46_83)] [] := by
          intro u3_46_83 V_e46_83 qx
          rw [qx] at h
          try simp only [cr_sm, cr_u2, cr_u3, cr_u4, cr_u5, cr_u6] at h
          refine jr_goto X.c 110 dX1_takeNumber_83 (by decide) ?_
          refine jr_iload_n X.c dX1_takeNumber_110 rfl 0 rfl ?_
          cases h
          exact jr_iret X.c hr0 dX1_takeNumber_111
        have kx110 : ∀ (u3_46_110 : Int32) (V_e46_110 : cr_Hp), e46 = (.inr (u3_46_110, V_e46_110)) → cr_J w 6 p l e rm_X1_takeNumber s m args below meth c 0 0 (MQ below (cr_Qi w x.2 x.1) args s 0 0 (cr_A w)) V_e46_110 110 [(3, .int u3_46_110)] [] := by
          intro u3_46_110 V_e46_110 qx
          rw [qx] at h
          try simp only [cr_sm, cr_u2, cr_u3, cr_u4, cr_u5, cr_u6] at h
          refine jr_iload_n X.c dX1_takeNumber_110 rfl 0 rfl ?_
          cases h
          exact jr_iret X.c hr0 dX1_takeNumber_111
        refine jr_sub [2, 4, 1, 0] rfl ?_
        refine cr_it_W (f := (fun (q : Int32 × Int32 × cr_Hp) => f_X1_takeNumber_l46 x2 q.1 q.2.1 q.2.2)) (P := fun (q : Int32 × Int32 × cr_Hp) => cr_J w 6 p l e rm_X1_takeNumber s m args below meth c 0 0 (MQ below (cr_Qi w x.2 x.1) args s 0 0 (cr_A w)) q.2.2 46 [(0, .ref (w.1 156)), (2, .int x2), (3, .int q.1), (4, .int q.2.1)] []) (K := fun z => z = e46) (fun q x hx kl kr => ?_) cr_FU (r5, (0 : Int32), V40) e46 he46 rfl
        obtain ⟨x3_46, x4_46, V_l46⟩ := q
        exact t_X1_takeNumber_l46 X x2 x3_46 x4_46 V_l46  x hx (fun x3_46 x4_46 V_l46 ez => kl _ ez) (fun u3_46_83 V_e46_83 ez => kx83 u3_46_83 V_e46_83 ((kr _ ez).symm)) (fun u3_46_110 V_e46_110 ez => kx110 u3_46_110 V_e46_110 ((kr _ ez).symm))
      · replace h := cr_if_f q23 h
        refine jr_aload_n X.c dX1_takeNumber_26 rfl 1 rfl ?_
        refine jr_iconst X.c (v := (1 : Int32)) dX1_takeNumber_27 (by decide) ?_
        obtain ⟨V28, eV28, h⟩ := cr_lt_s h
        refine jr_put X.c (ci := 1) (C := RX1) (T := TX1) (N := 9) (k := 2) rfl cr_in1 tyX1 tyX1_ok nmX1 (by decide) (cr_row_156 w) rfl (Nat.le_of_ble_eq_true rfl) (by decide) rfl (by decide) (by decide) fl_X1_22 dX1_takeNumber_28 eV28 ?_
        refine jr_iload_n X.c dX1_takeNumber_31 rfl 2 rfl ?_
        cases h
        exact jr_iret X.c hr0 dX1_takeNumber_32
set_option maxRecDepth 100000 in
set_option maxHeartbeats 4000000 in
theorem m_X1_takeNumber (l : Launch) (w : cr_Wd) (V : cr_Hp) (x1 : Int32) (x2 : Int32)  (x : Int32 × cr_Hp) (h : f_X1_takeNumber x1 x2 V = some x) : Met l yX1_takeNumber (cr_wds yX1_takeNumber cX1_takeNumber 6 (some .int)) rm_X1_takeNumber (cr_Pc w V [.ref (w.1 156), .int x1, .int x2]) (cr_Qi w x.2 x.1) 0 0 (cr_A w) := by
  refine cr_met (own := RX1) (lv := [(0, .ref (w.1 156)), (1, .int x1), (2, .int x2)]) (by decide +kernel) rfl (Nat.le_of_ble_eq_true rfl) rfl (fun p e s m args below meth c X hr0 => ?_)
  exact t_X1_takeNumber X x1 x2 V  hr0 x h
abbrev rm_X1_readItem : Room := { frames := 3, cells := 0, slots := 0, locals := 68 }
theorem hd_X1_readItem : yX1_readItem.cls = RX1 ∧ yX1_readItem.cls ≠ "java/lang/invoke/MethodHandle" ∧ yX1_readItem.cls ≠ "java/lang/invoke/VarHandle" ∧ (parseMethodDescriptor yX1_readItem.desc).map (fun d => d.parameters.length) = some 0 := by decide +kernel
def f_X1_readItem_b53 (z0_53 : Int32) (V35 : cr_Hp) : Option (cr_Hp) :=
  cr_bd (f_X1_take z0_53 V35) (fun (V53 : cr_Hp) => cr_b2 (f_X1_takeNumber (0 : Int32) (30 : Int32) V53) (fun (r61 : Int32) (V61 : cr_Hp) => cr_lt (cr_pt V61 156 4 r61) (fun (V64 : cr_Hp) => cr_bd (f_X1_take (44 : Int32) V64) (fun (V70 : cr_Hp) => cr_b2 (f_X1_takeNumber (0 : Int32) (30 : Int32) V70) (fun (r78 : Int32) (V78 : cr_Hp) => cr_lt (cr_pt V78 156 5 r78) (fun (V81 : cr_Hp) => if (V81 156 3) = 0 then (cr_bd (f_X1_take (115 : Int32) V81) (fun (V114 : cr_Hp) => cr_b2 (f_X1_takeNumber (1 : Int32) (3 : Int32) V114) (fun (r121 : Int32) (V121 : cr_Hp) => cr_lt (cr_pt V121 156 7 r121) (fun (V124 : cr_Hp) => cr_bd (f_X1_take (112 : Int32) V124) (fun (V130 : cr_Hp) => cr_b2 (f_X1_takeNumber (0 : Int32) (2 : Int32) V130) (fun (r137 : Int32) (V137 : cr_Hp) => cr_lt (cr_pt V137 156 8 r137) (fun (V140 : cr_Hp) => some V140))))))) else (cr_bd (f_X1_take (58 : Int32) V81) (fun (V94 : cr_Hp) => cr_b2 (f_X1_takeNumber (1 : Int32) (15 : Int32) V94) (fun (r102 : Int32) (V102 : cr_Hp) => cr_lt (cr_pt V102 156 6 r102) (fun (V105 : cr_Hp) => some V105))))))))))
set_option maxRecDepth 100000 in
set_option maxHeartbeats 4000000 in
theorem t_X1_readItem_b53 {p : Program} {l : Launch} {e : Env} {s : State} {m : MethodId} {args : Array Value} {below : List Frame} {meth : Method} {c : Code} {w : cr_Wd} (X : cr_Cx w RX1 (Cond.code yX1_readItem cX1_readItem 1 none) cX1_readItem 1 p s m args meth c) (z0_53 : Int32) (V35 : cr_Hp)  (hr0 : meth.sig.returnType = none) (x : cr_Hp) (h : f_X1_readItem_b53 z0_53 V35 = some x) : cr_J w 1 p l e rm_X1_readItem s m args below meth c 0 0 (MQ below (cr_Qv w x) args s 0 0 (cr_A w)) V35 53 [(0, .ref (w.1 156))] [.int z0_53, .ref (w.1 156)] := by
  unfold f_X1_readItem_b53 at h
  obtain ⟨V53, hr53, h⟩ := cr_bd_s h
  refine jc_Vv X.c (As := [.int z0_53]) (V1 := V53) (C := RX1) (T := TX1) (N := 9) (ci := 1) 1 (m_X1_take l w V35 z0_53  V53 hr53) ⟨rfl, rfl⟩ ml_X1_29 im_X1_take sl_X1_take in_X1 cd_X1_take hd_X1_take ⟨Nat.le_of_ble_eq_true rfl, Nat.le_of_ble_eq_true rfl⟩ ⟨Nat.le_of_ble_eq_true rfl, Nat.le_of_ble_eq_true rfl⟩ rfl (Nat.le_of_ble_eq_true rfl) (by decide) ((cr_row_156 w) _) rfl rfl dX1_readItem_53 ?_
  refine jr_aload_n X.c dX1_readItem_56 rfl 0 rfl ?_
  refine jr_aload_n X.c dX1_readItem_57 rfl 0 rfl ?_
  refine jr_iconst X.c (v := (0 : Int32)) dX1_readItem_58 (by decide) ?_
  refine jr_bipush X.c (v := (30 : Int32)) dX1_readItem_59 (by decide) ?_
  obtain ⟨r61, V61, hr61, h⟩ := cr_b2_s h
  refine jc_Vi X.c (As := [.int (0 : Int32), .int (30 : Int32)]) (V1 := V61) (C := RX1) (T := TX1) (N := 9) (ci := 1) 2 (m_X1_takeNumber l w V53 (0 : Int32) (30 : Int32)  (r61, V61) hr61) ⟨rfl, rfl⟩ ml_X1_40 im_X1_takeNumber sl_X1_takeNumber in_X1 cd_X1_takeNumber hd_X1_takeNumber ⟨Nat.le_of_ble_eq_true rfl, Nat.le_of_ble_eq_true rfl⟩ ⟨Nat.le_of_ble_eq_true rfl, Nat.le_of_ble_eq_true rfl⟩ rfl (Nat.le_of_ble_eq_true rfl) (by decide) ((cr_row_156 w) _) rfl rfl dX1_readItem_61 ?_
  obtain ⟨V64, eV64, h⟩ := cr_lt_s h
  refine jr_put X.c (ci := 1) (C := RX1) (T := TX1) (N := 9) (k := 4) rfl cr_in1 tyX1 tyX1_ok nmX1 (by decide) (cr_row_156 w) rfl (Nat.le_of_ble_eq_true rfl) (by decide) rfl rfl rfl fl_X1_44 dX1_readItem_64 eV64 ?_
  refine jr_aload_n X.c dX1_readItem_67 rfl 0 rfl ?_
  refine jr_bipush X.c (v := (44 : Int32)) dX1_readItem_68 (by decide) ?_
  obtain ⟨V70, hr70, h⟩ := cr_bd_s h
  refine jc_Vv X.c (As := [.int (44 : Int32)]) (V1 := V70) (C := RX1) (T := TX1) (N := 9) (ci := 1) 1 (m_X1_take l w V64 (44 : Int32)  V70 hr70) ⟨rfl, rfl⟩ ml_X1_29 im_X1_take sl_X1_take in_X1 cd_X1_take hd_X1_take ⟨Nat.le_of_ble_eq_true rfl, Nat.le_of_ble_eq_true rfl⟩ ⟨Nat.le_of_ble_eq_true rfl, Nat.le_of_ble_eq_true rfl⟩ rfl (Nat.le_of_ble_eq_true rfl) (by decide) ((cr_row_156 w) _) rfl rfl dX1_readItem_70 ?_
  refine jr_aload_n X.c dX1_readItem_73 rfl 0 rfl ?_
  refine jr_aload_n X.c dX1_readItem_74 rfl 0 rfl ?_
  refine jr_iconst X.c (v := (0 : Int32)) dX1_readItem_75 (by decide) ?_
  refine jr_bipush X.c (v := (30 : Int32)) dX1_readItem_76 (by decide) ?_
  obtain ⟨r78, V78, hr78, h⟩ := cr_b2_s h
  refine jc_Vi X.c (As := [.int (0 : Int32), .int (30 : Int32)]) (V1 := V78) (C := RX1) (T := TX1) (N := 9) (ci := 1) 2 (m_X1_takeNumber l w V70 (0 : Int32) (30 : Int32)  (r78, V78) hr78) ⟨rfl, rfl⟩ ml_X1_40 im_X1_takeNumber sl_X1_takeNumber in_X1 cd_X1_takeNumber hd_X1_takeNumber ⟨Nat.le_of_ble_eq_true rfl, Nat.le_of_ble_eq_true rfl⟩ ⟨Nat.le_of_ble_eq_true rfl, Nat.le_of_ble_eq_true rfl⟩ rfl (Nat.le_of_ble_eq_true rfl) (by decide) ((cr_row_156 w) _) rfl rfl dX1_readItem_78 ?_
  obtain ⟨V81, eV81, h⟩ := cr_lt_s h
  refine jr_put X.c (ci := 1) (C := RX1) (T := TX1) (N := 9) (k := 5) rfl cr_in1 tyX1 tyX1_ok nmX1 (by decide) (cr_row_156 w) rfl (Nat.le_of_ble_eq_true rfl) (by decide) rfl rfl rfl fl_X1_47 dX1_readItem_81 eV81 ?_
  refine jr_aload_n X.c dX1_readItem_84 rfl 0 rfl ?_
  refine jr_get X.c (ci := 1) (C := RX1) (T := TX1) (N := 9) (k := 3) rfl cr_in1 (by decide) ((cr_row_156 w) _) rfl (by decide) fl_X1_37 dX1_readItem_85 ?_
  refine jr_if_eq X.c 111 dX1_readItem_88 (by decide) (fun q88 => ?_) (fun q88 => ?_)
  · replace h := cr_if_t q88 h
    refine jr_aload_n X.c dX1_readItem_111 rfl 0 rfl ?_
    refine jr_bipush X.c (v := (115 : Int32)) dX1_readItem_112 (by decide) ?_
    obtain ⟨V114, hr114, h⟩ := cr_bd_s h
    refine jc_Vv X.c (As := [.int (115 : Int32)]) (V1 := V114) (C := RX1) (T := TX1) (N := 9) (ci := 1) 1 (m_X1_take l w V81 (115 : Int32)  V114 hr114) ⟨rfl, rfl⟩ ml_X1_29 im_X1_take sl_X1_take in_X1 cd_X1_take hd_X1_take ⟨Nat.le_of_ble_eq_true rfl, Nat.le_of_ble_eq_true rfl⟩ ⟨Nat.le_of_ble_eq_true rfl, Nat.le_of_ble_eq_true rfl⟩ rfl (Nat.le_of_ble_eq_true rfl) (by decide) ((cr_row_156 w) _) rfl rfl dX1_readItem_114 ?_
    refine jr_aload_n X.c dX1_readItem_117 rfl 0 rfl ?_
    refine jr_aload_n X.c dX1_readItem_118 rfl 0 rfl ?_
    refine jr_iconst X.c (v := (1 : Int32)) dX1_readItem_119 (by decide) ?_
    refine jr_iconst X.c (v := (3 : Int32)) dX1_readItem_120 (by decide) ?_
    obtain ⟨r121, V121, hr121, h⟩ := cr_b2_s h
    refine jc_Vi X.c (As := [.int (1 : Int32), .int (3 : Int32)]) (V1 := V121) (C := RX1) (T := TX1) (N := 9) (ci := 1) 2 (m_X1_takeNumber l w V114 (1 : Int32) (3 : Int32)  (r121, V121) hr121) ⟨rfl, rfl⟩ ml_X1_40 im_X1_takeNumber sl_X1_takeNumber in_X1 cd_X1_takeNumber hd_X1_takeNumber ⟨Nat.le_of_ble_eq_true rfl, Nat.le_of_ble_eq_true rfl⟩ ⟨Nat.le_of_ble_eq_true rfl, Nat.le_of_ble_eq_true rfl⟩ rfl (Nat.le_of_ble_eq_true rfl) (by decide) ((cr_row_156 w) _) rfl rfl dX1_readItem_121 ?_
    obtain ⟨V124, eV124, h⟩ := cr_lt_s h
    refine jr_put X.c (ci := 1) (C := RX1) (T := TX1) (N := 9) (k := 7) rfl cr_in1 tyX1 tyX1_ok nmX1 (by decide) (cr_row_156 w) rfl (Nat.le_of_ble_eq_true rfl) (by decide) rfl rfl rfl fl_X1_53 dX1_readItem_124 eV124 ?_
    refine jr_aload_n X.c dX1_readItem_127 rfl 0 rfl ?_
    refine jr_bipush X.c (v := (112 : Int32)) dX1_readItem_128 (by decide) ?_
    obtain ⟨V130, hr130, h⟩ := cr_bd_s h
    refine jc_Vv X.c (As := [.int (112 : Int32)]) (V1 := V130) (C := RX1) (T := TX1) (N := 9) (ci := 1) 1 (m_X1_take l w V124 (112 : Int32)  V130 hr130) ⟨rfl, rfl⟩ ml_X1_29 im_X1_take sl_X1_take in_X1 cd_X1_take hd_X1_take ⟨Nat.le_of_ble_eq_true rfl, Nat.le_of_ble_eq_true rfl⟩ ⟨Nat.le_of_ble_eq_true rfl, Nat.le_of_ble_eq_true rfl⟩ rfl (Nat.le_of_ble_eq_true rfl) (by decide) ((cr_row_156 w) _) rfl rfl dX1_readItem_130 ?_
    refine jr_aload_n X.c dX1_readItem_133 rfl 0 rfl ?_
    refine jr_aload_n X.c dX1_readItem_134 rfl 0 rfl ?_
    refine jr_iconst X.c (v := (0 : Int32)) dX1_readItem_135 (by decide) ?_
    refine jr_iconst X.c (v := (2 : Int32)) dX1_readItem_136 (by decide) ?_
    obtain ⟨r137, V137, hr137, h⟩ := cr_b2_s h
    refine jc_Vi X.c (As := [.int (0 : Int32), .int (2 : Int32)]) (V1 := V137) (C := RX1) (T := TX1) (N := 9) (ci := 1) 2 (m_X1_takeNumber l w V130 (0 : Int32) (2 : Int32)  (r137, V137) hr137) ⟨rfl, rfl⟩ ml_X1_40 im_X1_takeNumber sl_X1_takeNumber in_X1 cd_X1_takeNumber hd_X1_takeNumber ⟨Nat.le_of_ble_eq_true rfl, Nat.le_of_ble_eq_true rfl⟩ ⟨Nat.le_of_ble_eq_true rfl, Nat.le_of_ble_eq_true rfl⟩ rfl (Nat.le_of_ble_eq_true rfl) (by decide) ((cr_row_156 w) _) rfl rfl dX1_readItem_137 ?_
    obtain ⟨V140, eV140, h⟩ := cr_lt_s h
    refine jr_put X.c (ci := 1) (C := RX1) (T := TX1) (N := 9) (k := 8) rfl cr_in1 tyX1 tyX1_ok nmX1 (by decide) (cr_row_156 w) rfl (Nat.le_of_ble_eq_true rfl) (by decide) rfl rfl rfl fl_X1_56 dX1_readItem_140 eV140 ?_
    cases h
    exact jr_vret X.c hr0 dX1_readItem_143
  · replace h := cr_if_f q88 h
    refine jr_aload_n X.c dX1_readItem_91 rfl 0 rfl ?_
    refine jr_bipush X.c (v := (58 : Int32)) dX1_readItem_92 (by decide) ?_
    obtain ⟨V94, hr94, h⟩ := cr_bd_s h
    refine jc_Vv X.c (As := [.int (58 : Int32)]) (V1 := V94) (C := RX1) (T := TX1) (N := 9) (ci := 1) 1 (m_X1_take l w V81 (58 : Int32)  V94 hr94) ⟨rfl, rfl⟩ ml_X1_29 im_X1_take sl_X1_take in_X1 cd_X1_take hd_X1_take ⟨Nat.le_of_ble_eq_true rfl, Nat.le_of_ble_eq_true rfl⟩ ⟨Nat.le_of_ble_eq_true rfl, Nat.le_of_ble_eq_true rfl⟩ rfl (Nat.le_of_ble_eq_true rfl) (by decide) ((cr_row_156 w) _) rfl rfl dX1_readItem_94 ?_
    refine jr_aload_n X.c dX1_readItem_97 rfl 0 rfl ?_
    refine jr_aload_n X.c dX1_readItem_98 rfl 0 rfl ?_
    refine jr_iconst X.c (v := (1 : Int32)) dX1_readItem_99 (by decide) ?_
    refine jr_bipush X.c (v := (15 : Int32)) dX1_readItem_100 (by decide) ?_
    obtain ⟨r102, V102, hr102, h⟩ := cr_b2_s h
    refine jc_Vi X.c (As := [.int (1 : Int32), .int (15 : Int32)]) (V1 := V102) (C := RX1) (T := TX1) (N := 9) (ci := 1) 2 (m_X1_takeNumber l w V94 (1 : Int32) (15 : Int32)  (r102, V102) hr102) ⟨rfl, rfl⟩ ml_X1_40 im_X1_takeNumber sl_X1_takeNumber in_X1 cd_X1_takeNumber hd_X1_takeNumber ⟨Nat.le_of_ble_eq_true rfl, Nat.le_of_ble_eq_true rfl⟩ ⟨Nat.le_of_ble_eq_true rfl, Nat.le_of_ble_eq_true rfl⟩ rfl (Nat.le_of_ble_eq_true rfl) (by decide) ((cr_row_156 w) _) rfl rfl dX1_readItem_102 ?_
    obtain ⟨V105, eV105, h⟩ := cr_lt_s h
    refine jr_put X.c (ci := 1) (C := RX1) (T := TX1) (N := 9) (k := 6) rfl cr_in1 tyX1 tyX1_ok nmX1 (by decide) (cr_row_156 w) rfl (Nat.le_of_ble_eq_true rfl) (by decide) rfl rfl rfl fl_X1_50 dX1_readItem_105 eV105 ?_
    refine jr_goto X.c 143 dX1_readItem_108 (by decide) ?_
    cases h
    exact jr_vret X.c hr0 dX1_readItem_143
def f_X1_readItem_b35 (z0_35 : Int32) (V_13 : cr_Hp) : Option (cr_Hp) :=
  cr_gd (cr_bo z0_35) (cr_lt (cr_pt V_13 156 3 z0_35) (fun (V35 : cr_Hp) => if (V35 156 3) = 0 then (f_X1_readItem_b53 (109 : Int32) V35) else (f_X1_readItem_b53 (114 : Int32) V35)))
set_option maxRecDepth 100000 in
set_option maxHeartbeats 4000000 in
theorem t_X1_readItem_b35 {p : Program} {l : Launch} {e : Env} {s : State} {m : MethodId} {args : Array Value} {below : List Frame} {meth : Method} {c : Code} {w : cr_Wd} (X : cr_Cx w RX1 (Cond.code yX1_readItem cX1_readItem 1 none) cX1_readItem 1 p s m args meth c) (z0_35 : Int32) (V_13 : cr_Hp)  (hr0 : meth.sig.returnType = none) (x : cr_Hp) (h : f_X1_readItem_b35 z0_35 V_13 = some x) : cr_J w 1 p l e rm_X1_readItem s m args below meth c 0 0 (MQ below (cr_Qv w x) args s 0 0 (cr_A w)) V_13 35 [(0, .ref (w.1 156))] [.int z0_35, .ref (w.1 156)] := by
  unfold f_X1_readItem_b35 at h
  obtain ⟨hk35, h⟩ := cr_gd_s h
  obtain ⟨V35, eV35, h⟩ := cr_lt_s h
  refine jr_put X.c (ci := 1) (C := RX1) (T := TX1) (N := 9) (k := 3) rfl cr_in1 tyX1 tyX1_ok nmX1 (by decide) (cr_row_156 w) rfl (Nat.le_of_ble_eq_true rfl) (by decide) rfl (cr_nb hk35) (cr_fb hk35) fl_X1_37 dX1_readItem_35 eV35 ?_
  refine jr_aload_n X.c dX1_readItem_38 rfl 0 rfl ?_
  refine jr_aload_n X.c dX1_readItem_39 rfl 0 rfl ?_
  refine jr_get X.c (ci := 1) (C := RX1) (T := TX1) (N := 9) (k := 3) rfl cr_in1 (by decide) ((cr_row_156 w) _) rfl (by decide) fl_X1_37 dX1_readItem_40 ?_
  refine jr_if_eq X.c 51 dX1_readItem_43 (by decide) (fun q43 => ?_) (fun q43 => ?_)
  · replace h := cr_if_t q43 h
    refine jr_bipush X.c (v := (109 : Int32)) dX1_readItem_51 (by decide) ?_
    refine jr_sub [0] rfl ?_
    exact t_X1_readItem_b53 X (109 : Int32) V35  hr0 x  h
  · replace h := cr_if_f q43 h
    refine jr_bipush X.c (v := (114 : Int32)) dX1_readItem_46 (by decide) ?_
    refine jr_goto X.c 53 dX1_readItem_48 (by decide) ?_
    refine jr_sub [0] rfl ?_
    exact t_X1_readItem_b53 X (114 : Int32) V35  hr0 x  h
def f_X1_readItem_b13  (V_13 : cr_Hp) : Option (cr_Hp) :=
  cr_bd (f_X6_signAt (V_13 156 1) V_13) (fun (r22 : Int32) => if r22 = (114 : Int32) then (f_X1_readItem_b35 (1 : Int32) V_13) else (f_X1_readItem_b35 (0 : Int32) V_13))
set_option maxRecDepth 100000 in
set_option maxHeartbeats 4000000 in
theorem t_X1_readItem_b13 {p : Program} {l : Launch} {e : Env} {s : State} {m : MethodId} {args : Array Value} {below : List Frame} {meth : Method} {c : Code} {w : cr_Wd} (X : cr_Cx w RX1 (Cond.code yX1_readItem cX1_readItem 1 none) cX1_readItem 1 p s m args meth c)  (V_13 : cr_Hp)  (hr0 : meth.sig.returnType = none) (x : cr_Hp) (h : f_X1_readItem_b13  V_13 = some x) : cr_J w 1 p l e rm_X1_readItem s m args below meth c 0 0 (MQ below (cr_Qv w x) args s 0 0 (cr_A w)) V_13 13 [(0, .ref (w.1 156))] [] := by
  unfold f_X1_readItem_b13 at h
  refine jr_aload_n X.c dX1_readItem_13 rfl 0 rfl ?_
  refine jr_aload_n X.c dX1_readItem_14 rfl 0 rfl ?_
  refine jr_get X.c (ci := 1) (C := RX1) (T := TX1) (N := 9) (k := 0) rfl cr_in1 (by decide) ((cr_row_156 w) _) rfl (by decide) fl_X1_12 dX1_readItem_15 ?_
  refine jr_aload_n X.c dX1_readItem_18 rfl 0 rfl ?_
  refine jr_get X.c (ci := 1) (C := RX1) (T := TX1) (N := 9) (k := 1) rfl cr_in1 (by decide) ((cr_row_156 w) _) rfl (by decide) fl_X1_18 dX1_readItem_19 ?_
  obtain ⟨r22, hr22, h⟩ := cr_bd_s h
  refine jc_Vi X.c (As := [.int (V_13 156 1)]) (V1 := V_13) (C := RX6) (T := TX6) (N := 2) (ci := 6) 1 (m_X6_signAt l w V_13 (V_13 156 1)  r22 hr22) ⟨rfl, rfl⟩ ml_X1_33 im_X6_signAt sl_X6_signAt in_X6 cd_X6_signAt hd_X6_signAt ⟨Nat.le_of_ble_eq_true rfl, Nat.le_of_ble_eq_true rfl⟩ ⟨Nat.le_of_ble_eq_true rfl, Nat.le_of_ble_eq_true rfl⟩ rfl (Nat.le_of_ble_eq_true rfl) (by decide) ((cr_row_157 w) _) rfl rfl dX1_readItem_22 ?_
  refine jr_bipush X.c (v := (114 : Int32)) dX1_readItem_25 (by decide) ?_
  refine jr_icmp_ne X.c 34 dX1_readItem_27 (by decide) (fun q27 => ?_) (fun q27 => ?_)
  · replace h := cr_if_f q27 h
    refine jr_iconst X.c (v := (0 : Int32)) dX1_readItem_34 (by decide) ?_
    refine jr_sub [0] rfl ?_
    exact t_X1_readItem_b35 X (0 : Int32) V_13  hr0 x  h
  · replace h := cr_if_t q27 h
    refine jr_iconst X.c (v := (1 : Int32)) dX1_readItem_30 (by decide) ?_
    refine jr_goto X.c 35 dX1_readItem_31 (by decide) ?_
    refine jr_sub [0] rfl ?_
    exact t_X1_readItem_b35 X (1 : Int32) V_13  hr0 x  h
def f_X1_readItem  (V : cr_Hp) : Option (cr_Hp) :=
  if (V 156 1) ≤ 0 then (f_X1_readItem_b13  V) else (cr_bd (f_X1_take (59 : Int32) V) (fun (V10 : cr_Hp) => f_X1_readItem_b13  V10))
set_option maxRecDepth 100000 in
set_option maxHeartbeats 4000000 in
theorem t_X1_readItem {p : Program} {l : Launch} {e : Env} {s : State} {m : MethodId} {args : Array Value} {below : List Frame} {meth : Method} {c : Code} {w : cr_Wd} (X : cr_Cx w RX1 (Cond.code yX1_readItem cX1_readItem 1 none) cX1_readItem 1 p s m args meth c)  (V : cr_Hp)  (hr0 : meth.sig.returnType = none) (x : cr_Hp) (h : f_X1_readItem  V = some x) : cr_J w 1 p l e rm_X1_readItem s m args below meth c 0 0 (MQ below (cr_Qv w x) args s 0 0 (cr_A w)) V 0 [(0, .ref (w.1 156))] [] := by
  unfold f_X1_readItem at h
  refine jr_aload_n X.c dX1_readItem_0 rfl 0 rfl ?_
  refine jr_get X.c (ci := 1) (C := RX1) (T := TX1) (N := 9) (k := 1) rfl cr_in1 (by decide) ((cr_row_156 w) _) rfl (by decide) fl_X1_18 dX1_readItem_1 ?_
  refine jr_if_le X.c 13 dX1_readItem_4 (by decide) (fun q4 => ?_) (fun q4 => ?_)
  · replace h := cr_if_t q4 h
    refine jr_sub [0] rfl ?_
    exact t_X1_readItem_b13 X  V  hr0 x  h
  · replace h := cr_if_f q4 h
    refine jr_aload_n X.c dX1_readItem_7 rfl 0 rfl ?_
    refine jr_bipush X.c (v := (59 : Int32)) dX1_readItem_8 (by decide) ?_
    obtain ⟨V10, hr10, h⟩ := cr_bd_s h
    refine jc_Vv X.c (As := [.int (59 : Int32)]) (V1 := V10) (C := RX1) (T := TX1) (N := 9) (ci := 1) 1 (m_X1_take l w V (59 : Int32)  V10 hr10) ⟨rfl, rfl⟩ ml_X1_29 im_X1_take sl_X1_take in_X1 cd_X1_take hd_X1_take ⟨Nat.le_of_ble_eq_true rfl, Nat.le_of_ble_eq_true rfl⟩ ⟨Nat.le_of_ble_eq_true rfl, Nat.le_of_ble_eq_true rfl⟩ rfl (Nat.le_of_ble_eq_true rfl) (by decide) ((cr_row_156 w) _) rfl rfl dX1_readItem_10 ?_
    refine jr_sub [0] rfl ?_
    exact t_X1_readItem_b13 X  V10  hr0 x  h
set_option maxRecDepth 100000 in
set_option maxHeartbeats 4000000 in
theorem m_X1_readItem (l : Launch) (w : cr_Wd) (V : cr_Hp)   (x : cr_Hp) (h : f_X1_readItem  V = some x) : Met l yX1_readItem (cr_wds yX1_readItem cX1_readItem 1 none) rm_X1_readItem (cr_Pc w V [.ref (w.1 156)]) (cr_Qv w x) 0 0 (cr_A w) := by
  refine cr_met (own := RX1) (lv := [(0, .ref (w.1 156))]) (by decide +kernel) rfl (Nat.le_of_ble_eq_true rfl) rfl (fun p e s m args below meth c X hr0 => ?_)
  exact t_X1_readItem X  V  hr0 x h
abbrev rm_X1_hasMore : Room := { frames := 0, cells := 0, slots := 0, locals := 0 }
theorem hd_X1_hasMore : yX1_hasMore.cls = RX1 ∧ yX1_hasMore.cls ≠ "java/lang/invoke/MethodHandle" ∧ yX1_hasMore.cls ≠ "java/lang/invoke/VarHandle" ∧ (parseMethodDescriptor yX1_hasMore.desc).map (fun d => d.parameters.length) = some 0 := by decide +kernel
def f_X1_hasMore  (V : cr_Hp) : Option (Int32) :=
  if (V 156 2) = 0 then (if (V 157 1) ≤ (V 156 1) then (some (0 : Int32)) else (some (1 : Int32))) else (some (0 : Int32))
set_option maxRecDepth 100000 in
set_option maxHeartbeats 4000000 in
theorem t_X1_hasMore {p : Program} {l : Launch} {e : Env} {s : State} {m : MethodId} {args : Array Value} {below : List Frame} {meth : Method} {c : Code} {w : cr_Wd} (X : cr_Cx w RX1 (Cond.code yX1_hasMore cX1_hasMore 1 (some .boolean)) cX1_hasMore 1 p s m args meth c)  (V : cr_Hp)  (hr0 : meth.sig.returnType = (some .boolean)) (x : Int32) (h : f_X1_hasMore  V = some x) : cr_J w 1 p l e rm_X1_hasMore s m args below meth c 0 0 (MQ below (cr_Qi w V x) args s 0 0 (cr_A w)) V 0 [(0, .ref (w.1 156))] [] := by
  unfold f_X1_hasMore at h
  refine jr_aload_n X.c dX1_hasMore_0 rfl 0 rfl ?_
  refine jr_get X.c (ci := 1) (C := RX1) (T := TX1) (N := 9) (k := 2) rfl cr_in1 (by decide) ((cr_row_156 w) _) rfl (by decide) fl_X1_22 dX1_hasMore_1 ?_
  refine jr_if_ne X.c 25 dX1_hasMore_4 (by decide) (fun q4 => ?_) (fun q4 => ?_)
  · replace h := cr_if_f q4 h
    refine jr_iconst X.c (v := (0 : Int32)) dX1_hasMore_25 (by decide) ?_
    cases h
    exact jr_zret X.c (r := (0 : Int32)) hr0 (by decide) dX1_hasMore_26
  · replace h := cr_if_t q4 h
    refine jr_aload_n X.c dX1_hasMore_7 rfl 0 rfl ?_
    refine jr_get X.c (ci := 1) (C := RX1) (T := TX1) (N := 9) (k := 1) rfl cr_in1 (by decide) ((cr_row_156 w) _) rfl (by decide) fl_X1_18 dX1_hasMore_8 ?_
    refine jr_aload_n X.c dX1_hasMore_11 rfl 0 rfl ?_
    refine jr_get X.c (ci := 1) (C := RX1) (T := TX1) (N := 9) (k := 0) rfl cr_in1 (by decide) ((cr_row_156 w) _) rfl (by decide) fl_X1_12 dX1_hasMore_12 ?_
    refine jr_get X.c (ci := 6) (C := RX6) (T := TX6) (N := 2) (k := 1) rfl cr_in6 (by decide) ((cr_row_157 w) _) rfl (by decide) fl_X1_26 dX1_hasMore_15 ?_
    refine jr_icmp_ge X.c 25 dX1_hasMore_18 (by decide) (fun q18 => ?_) (fun q18 => ?_)
    · replace h := cr_if_t q18 h
      refine jr_iconst X.c (v := (0 : Int32)) dX1_hasMore_25 (by decide) ?_
      cases h
      exact jr_zret X.c (r := (0 : Int32)) hr0 (by decide) dX1_hasMore_26
    · replace h := cr_if_f q18 h
      refine jr_iconst X.c (v := (1 : Int32)) dX1_hasMore_21 (by decide) ?_
      refine jr_goto X.c 26 dX1_hasMore_22 (by decide) ?_
      cases h
      exact jr_zret X.c (r := (1 : Int32)) hr0 (by decide) dX1_hasMore_26
set_option maxRecDepth 100000 in
set_option maxHeartbeats 4000000 in
theorem m_X1_hasMore (l : Launch) (w : cr_Wd) (V : cr_Hp)   (x : Int32) (h : f_X1_hasMore  V = some x) : Met l yX1_hasMore (cr_wds yX1_hasMore cX1_hasMore 1 (some .boolean)) rm_X1_hasMore (cr_Pc w V [.ref (w.1 156)]) (cr_Qi w V x) 0 0 (cr_A w) := by
  refine cr_met (own := RX1) (lv := [(0, .ref (w.1 156))]) (by decide +kernel) rfl (Nat.le_of_ble_eq_true rfl) rfl (fun p e s m args below meth c X hr0 => ?_)
  exact t_X1_hasMore X  V  hr0 x h
abbrev rm_X7_syntaxError : Room := { frames := 4, cells := 0, slots := 0, locals := 88 }
theorem hd_X7_syntaxError : yX7_syntaxError.cls = RX7 ∧ yX7_syntaxError.cls ≠ "java/lang/invoke/MethodHandle" ∧ yX7_syntaxError.cls ≠ "java/lang/invoke/VarHandle" ∧ (parseMethodDescriptor yX7_syntaxError.desc).map (fun d => d.parameters.length) = some 0 := by decide +kernel
def f_X7_syntaxError_l16 (x1_16 : Int32) (V_l16 : cr_Hp) : Option ((Int32 × cr_Hp) ⊕ cr_Hp) :=
  if (80 : Int32) ≤ x1_16 then (some (.inr V_l16)) else (cr_bd (f_X1_hasMore  V_l16) (fun (r26 : Int32) => if r26 = 0 then (some (.inr V_l16)) else (cr_bd (f_X1_readItem  V_l16) (fun (V36 : cr_Hp) => some (.inl ((x1_16 + (1 : Int32)), V36))))))
set_option maxRecDepth 100000 in
set_option maxHeartbeats 4000000 in
theorem t_X7_syntaxError_l16 {p : Program} {l : Launch} {e : Env} {s : State} {m : MethodId} {args : Array Value} {below : List Frame} {meth : Method} {c : Code} {w : cr_Wd} {Q : State → Prop} (X : cr_Cx w RX7 (Cond.code yX7_syntaxError cX7_syntaxError 2 (some .int)) cX7_syntaxError 2 p s m args meth c) (x1_16 : Int32) (V_l16 : cr_Hp)  (x : (Int32 × cr_Hp) ⊕ cr_Hp) (h : f_X7_syntaxError_l16 x1_16 V_l16 = some x) (kl : ∀ (x1_16 : Int32) (V_l16 : cr_Hp), x = .inl (x1_16, V_l16) → cr_J w 2 p l e rm_X7_syntaxError s m args below meth c 0 0 Q V_l16 16 [(0, .ref (w.1 152)), (1, .int x1_16)] []) (kr45 : ∀ (V_e16_45 : cr_Hp), x = .inr V_e16_45 → cr_J w 2 p l e rm_X7_syntaxError s m args below meth c 0 0 Q V_e16_45 45 [(0, .ref (w.1 152))] []) : cr_J w 2 p l e rm_X7_syntaxError s m args below meth c 0 0 Q V_l16 16 [(0, .ref (w.1 152)), (1, .int x1_16)] [] := by
  unfold f_X7_syntaxError_l16 at h
  refine jr_iload_n X.c dX7_syntaxError_16 rfl 1 rfl ?_
  refine jr_bipush X.c (v := (80 : Int32)) dX7_syntaxError_17 (by decide) ?_
  refine jr_icmp_ge X.c 45 dX7_syntaxError_19 (by decide) (fun q19 => ?_) (fun q19 => ?_)
  · replace h := cr_if_t q19 h
    cases h
    refine jr_sub [0] rfl ?_
    exact kr45 V_l16 rfl
  · replace h := cr_if_f q19 h
    refine jr_aload_n X.c dX7_syntaxError_22 rfl 0 rfl ?_
    refine jr_get X.c (ci := 7) (C := RX7) (T := TX7) (N := 5) (k := 4) rfl cr_in7 (by decide) ((cr_row_152 w) _) rfl (by decide) fl_X7_36 dX7_syntaxError_23 ?_
    obtain ⟨r26, hr26, h⟩ := cr_bd_s h
    refine jc_Vi X.c (As := []) (V1 := V_l16) (C := RX1) (T := TX1) (N := 9) (ci := 1) 0 (m_X1_hasMore l w V_l16   r26 hr26) ⟨rfl, rfl⟩ ml_X7_216 im_X1_hasMore sl_X1_hasMore in_X1 cd_X1_hasMore hd_X1_hasMore ⟨Nat.le_of_ble_eq_true rfl, Nat.le_of_ble_eq_true rfl⟩ ⟨Nat.le_of_ble_eq_true rfl, Nat.le_of_ble_eq_true rfl⟩ rfl (Nat.le_of_ble_eq_true rfl) (by decide) ((cr_row_156 w) _) rfl rfl dX7_syntaxError_26 ?_
    refine jr_if_eq X.c 45 dX7_syntaxError_29 (by decide) (fun q29 => ?_) (fun q29 => ?_)
    · replace h := cr_if_t q29 h
      cases h
      refine jr_sub [0] rfl ?_
      exact kr45 V_l16 rfl
    · replace h := cr_if_f q29 h
      refine jr_aload_n X.c dX7_syntaxError_32 rfl 0 rfl ?_
      refine jr_get X.c (ci := 7) (C := RX7) (T := TX7) (N := 5) (k := 4) rfl cr_in7 (by decide) ((cr_row_152 w) _) rfl (by decide) fl_X7_36 dX7_syntaxError_33 ?_
      obtain ⟨V36, hr36, h⟩ := cr_bd_s h
      refine jc_Vv X.c (As := []) (V1 := V36) (C := RX1) (T := TX1) (N := 9) (ci := 1) 0 (m_X1_readItem l w V_l16   V36 hr36) ⟨rfl, rfl⟩ ml_X7_213 im_X1_readItem sl_X1_readItem in_X1 cd_X1_readItem hd_X1_readItem ⟨Nat.le_of_ble_eq_true rfl, Nat.le_of_ble_eq_true rfl⟩ ⟨Nat.le_of_ble_eq_true rfl, Nat.le_of_ble_eq_true rfl⟩ rfl (Nat.le_of_ble_eq_true rfl) (by decide) ((cr_row_156 w) _) rfl rfl dX7_syntaxError_36 ?_
      refine jr_iinc X.c (v := (x1_16 + (1 : Int32))) (lv2 := [(1, .int (x1_16 + (1 : Int32))), (0, .ref (w.1 152))]) dX7_syntaxError_39 1 rfl (by rfl) (by decide) rfl ?_
      refine jr_goto X.c 16 dX7_syntaxError_42 (by decide) ?_
      cases h
      refine jr_sub [1, 0] rfl ?_
      exact kl (x1_16 + (1 : Int32)) V36 rfl
def f_X7_syntaxError_b45  (V_e16_45 : cr_Hp) : Option (Int32 × cr_Hp) :=
  if (V_e16_45 156 2) = 0 then (some ((-1006 : Int32), V_e16_45)) else (some ((V_e16_45 156 1), V_e16_45))
set_option maxRecDepth 100000 in
set_option maxHeartbeats 4000000 in
theorem t_X7_syntaxError_b45 {p : Program} {l : Launch} {e : Env} {s : State} {m : MethodId} {args : Array Value} {below : List Frame} {meth : Method} {c : Code} {w : cr_Wd} (X : cr_Cx w RX7 (Cond.code yX7_syntaxError cX7_syntaxError 2 (some .int)) cX7_syntaxError 2 p s m args meth c)  (V_e16_45 : cr_Hp)  (hr0 : meth.sig.returnType = (some .int)) (x : Int32 × cr_Hp) (h : f_X7_syntaxError_b45  V_e16_45 = some x) : cr_J w 2 p l e rm_X7_syntaxError s m args below meth c 0 0 (MQ below (cr_Qi w x.2 x.1) args s 0 0 (cr_A w)) V_e16_45 45 [(0, .ref (w.1 152))] [] := by
  unfold f_X7_syntaxError_b45 at h
  refine jr_aload_n X.c dX7_syntaxError_45 rfl 0 rfl ?_
  refine jr_get X.c (ci := 7) (C := RX7) (T := TX7) (N := 5) (k := 4) rfl cr_in7 (by decide) ((cr_row_152 w) _) rfl (by decide) fl_X7_36 dX7_syntaxError_46 ?_
  refine jr_get X.c (ci := 1) (C := RX1) (T := TX1) (N := 9) (k := 2) rfl cr_in1 (by decide) ((cr_row_156 w) _) rfl (by decide) fl_X7_220 dX7_syntaxError_49 ?_
  refine jr_if_eq X.c 65 dX7_syntaxError_52 (by decide) (fun q52 => ?_) (fun q52 => ?_)
  · replace h := cr_if_t q52 h
    refine jr_sipush X.c (v := (-1006 : Int32)) dX7_syntaxError_65 (by decide) ?_
    cases h
    exact jr_iret X.c hr0 dX7_syntaxError_68
  · replace h := cr_if_f q52 h
    refine jr_aload_n X.c dX7_syntaxError_55 rfl 0 rfl ?_
    refine jr_get X.c (ci := 7) (C := RX7) (T := TX7) (N := 5) (k := 4) rfl cr_in7 (by decide) ((cr_row_152 w) _) rfl (by decide) fl_X7_36 dX7_syntaxError_56 ?_
    refine jr_get X.c (ci := 1) (C := RX1) (T := TX1) (N := 9) (k := 1) rfl cr_in1 (by decide) ((cr_row_156 w) _) rfl (by decide) fl_X7_223 dX7_syntaxError_59 ?_
    refine jr_goto X.c 68 dX7_syntaxError_62 (by decide) ?_
    cases h
    exact jr_iret X.c hr0 dX7_syntaxError_68
def f_X7_syntaxError  (V : cr_Hp) : Option (Int32 × cr_Hp) :=
  cr_bd (f_X1_start  V) (fun (V4 : cr_Hp) => cr_bd (f_X1_readItem  V4) (fun (V11 : cr_Hp) => cr_bd (cr_it (fun (q : Int32 × cr_Hp) => f_X7_syntaxError_l16  q.1 q.2) cr_FU ((1 : Int32), V11)) (fun (V_e16_45 : cr_Hp) => f_X7_syntaxError_b45  V_e16_45)))
set_option maxRecDepth 100000 in
set_option maxHeartbeats 4000000 in
theorem t_X7_syntaxError {p : Program} {l : Launch} {e : Env} {s : State} {m : MethodId} {args : Array Value} {below : List Frame} {meth : Method} {c : Code} {w : cr_Wd} (X : cr_Cx w RX7 (Cond.code yX7_syntaxError cX7_syntaxError 2 (some .int)) cX7_syntaxError 2 p s m args meth c)  (V : cr_Hp)  (hr0 : meth.sig.returnType = (some .int)) (x : Int32 × cr_Hp) (h : f_X7_syntaxError  V = some x) : cr_J w 2 p l e rm_X7_syntaxError s m args below meth c 0 0 (MQ below (cr_Qi w x.2 x.1) args s 0 0 (cr_A w)) V 0 [(0, .ref (w.1 152))] [] := by
  unfold f_X7_syntaxError at h
  refine jr_aload_n X.c dX7_syntaxError_0 rfl 0 rfl ?_
  refine jr_get X.c (ci := 7) (C := RX7) (T := TX7) (N := 5) (k := 4) rfl cr_in7 (by decide) ((cr_row_152 w) _) rfl (by decide) fl_X7_36 dX7_syntaxError_1 ?_
  obtain ⟨V4, hr4, h⟩ := cr_bd_s h
  refine jc_Vv X.c (As := []) (V1 := V4) (C := RX1) (T := TX1) (N := 9) (ci := 1) 0 (m_X1_start l w V   V4 hr4) ⟨rfl, rfl⟩ ml_X7_210 im_X1_start sl_X1_start in_X1 cd_X1_start hd_X1_start ⟨Nat.le_of_ble_eq_true rfl, Nat.le_of_ble_eq_true rfl⟩ ⟨Nat.le_of_ble_eq_true rfl, Nat.le_of_ble_eq_true rfl⟩ rfl (Nat.le_of_ble_eq_true rfl) (by decide) ((cr_row_156 w) _) rfl rfl dX7_syntaxError_4 ?_
  refine jr_aload_n X.c dX7_syntaxError_7 rfl 0 rfl ?_
  refine jr_get X.c (ci := 7) (C := RX7) (T := TX7) (N := 5) (k := 4) rfl cr_in7 (by decide) ((cr_row_152 w) _) rfl (by decide) fl_X7_36 dX7_syntaxError_8 ?_
  obtain ⟨V11, hr11, h⟩ := cr_bd_s h
  refine jc_Vv X.c (As := []) (V1 := V11) (C := RX1) (T := TX1) (N := 9) (ci := 1) 0 (m_X1_readItem l w V4   V11 hr11) ⟨rfl, rfl⟩ ml_X7_213 im_X1_readItem sl_X1_readItem in_X1 cd_X1_readItem hd_X1_readItem ⟨Nat.le_of_ble_eq_true rfl, Nat.le_of_ble_eq_true rfl⟩ ⟨Nat.le_of_ble_eq_true rfl, Nat.le_of_ble_eq_true rfl⟩ rfl (Nat.le_of_ble_eq_true rfl) (by decide) ((cr_row_156 w) _) rfl rfl dX7_syntaxError_11 ?_
  refine jr_iconst X.c (v := (1 : Int32)) dX7_syntaxError_14 (by decide) ?_
  refine jr_istore_n X.c (lv2 := [(1, .int (1 : Int32)), (0, .ref (w.1 152))]) dX7_syntaxError_15 rfl (by decide) rfl ?_
  obtain ⟨e16, he16, h⟩ := cr_bd_s h
  have kx45 : ∀ (V_e16_45 : cr_Hp), e16 = V_e16_45 → cr_J w 2 p l e rm_X7_syntaxError s m args below meth c 0 0 (MQ below (cr_Qi w x.2 x.1) args s 0 0 (cr_A w)) V_e16_45 45 [(0, .ref (w.1 152))] [] := by
    intro V_e16_45 qx
    rw [qx] at h
    try simp only [cr_sm, cr_u2, cr_u3, cr_u4, cr_u5, cr_u6] at h
    refine jr_sub [0] rfl ?_
    exact t_X7_syntaxError_b45 X  V_e16_45  hr0 x  h
  refine jr_sub [1, 0] rfl ?_
  refine cr_it_W (f := (fun (q : Int32 × cr_Hp) => f_X7_syntaxError_l16  q.1 q.2)) (P := fun (q : Int32 × cr_Hp) => cr_J w 2 p l e rm_X7_syntaxError s m args below meth c 0 0 (MQ below (cr_Qi w x.2 x.1) args s 0 0 (cr_A w)) q.2 16 [(0, .ref (w.1 152)), (1, .int q.1)] []) (K := fun z => z = e16) (fun q x hx kl kr => ?_) cr_FU ((1 : Int32), V11) e16 he16 rfl
  obtain ⟨x1_16, V_l16⟩ := q
  exact t_X7_syntaxError_l16 X x1_16 V_l16  x hx (fun x1_16 V_l16 ez => kl _ ez) (fun V_e16_45 ez => kx45 V_e16_45 ((kr _ ez).symm))
set_option maxRecDepth 100000 in
set_option maxHeartbeats 4000000 in
theorem m_X7_syntaxError (l : Launch) (w : cr_Wd) (V : cr_Hp)   (x : Int32 × cr_Hp) (h : f_X7_syntaxError  V = some x) : Met l yX7_syntaxError (cr_wds yX7_syntaxError cX7_syntaxError 2 (some .int)) rm_X7_syntaxError (cr_Pc w V [.ref (w.1 152)]) (cr_Qi w x.2 x.1) 0 0 (cr_A w) := by
  refine cr_met (own := RX7) (lv := [(0, .ref (w.1 152))]) (by decide +kernel) rfl (Nat.le_of_ble_eq_true rfl) rfl (fun p e s m args below meth c X hr0 => ?_)
  exact t_X7_syntaxError X  V  hr0 x h
abbrev rm_X7_addItemRead : Room := { frames := 2, cells := 0, slots := 0, locals := 50 }
theorem hd_X7_addItemRead : yX7_addItemRead.cls = RX7 ∧ yX7_addItemRead.cls ≠ "java/lang/invoke/MethodHandle" ∧ yX7_addItemRead.cls ≠ "java/lang/invoke/VarHandle" ∧ (parseMethodDescriptor yX7_addItemRead.desc).map (fun d => d.parameters.length) = some 0 := by decide +kernel
def f_X7_addItemRead  (V : cr_Hp) : Option (Int32 × cr_Hp) :=
  if (V 156 3) = 0 then (cr_bd (f_X3_refusalOfMarble 0 (V 156 4) (V 156 5) (V 156 7) (V 156 8) V) (fun (r110 : Int32) => if r110 = 0 then (cr_b2 (f_X3_addMarble 0 (V 156 4) (V 156 5) (V 156 7) (V 156 8) V) (fun (r148 : Int32) (V148 : cr_Hp) => if r148 < 0 then (some ((0 : Int32), V148)) else (some ((1 : Int32), V148)))) else (some ((0 : Int32), V)))) else (cr_bd (f_X3_refusalOfRing 0 (V 156 4) (V 156 5) (V 156 6) V) (fun (r35 : Int32) => if r35 = 0 then (cr_b2 (f_X3_addRing 0 (V 156 4) (V 156 5) (V 156 6) V) (fun (r66 : Int32) (V66 : cr_Hp) => if r66 < 0 then (some ((0 : Int32), V66)) else (some ((1 : Int32), V66)))) else (some ((0 : Int32), V))))
set_option maxRecDepth 100000 in
set_option maxHeartbeats 4000000 in
theorem t_X7_addItemRead {p : Program} {l : Launch} {e : Env} {s : State} {m : MethodId} {args : Array Value} {below : List Frame} {meth : Method} {c : Code} {w : cr_Wd} (X : cr_Cx w RX7 (Cond.code yX7_addItemRead cX7_addItemRead 1 (some .boolean)) cX7_addItemRead 1 p s m args meth c)  (V : cr_Hp)  (hr0 : meth.sig.returnType = (some .boolean)) (x : Int32 × cr_Hp) (h : f_X7_addItemRead  V = some x) : cr_J w 1 p l e rm_X7_addItemRead s m args below meth c 0 0 (MQ below (cr_Qi w x.2 x.1) args s 0 0 (cr_A w)) V 0 [(0, .ref (w.1 152))] [] := by
  unfold f_X7_addItemRead at h
  refine jr_aload_n X.c dX7_addItemRead_0 rfl 0 rfl ?_
  refine jr_get X.c (ci := 7) (C := RX7) (T := TX7) (N := 5) (k := 4) rfl cr_in7 (by decide) ((cr_row_152 w) _) rfl (by decide) fl_X7_36 dX7_addItemRead_1 ?_
  refine jr_get X.c (ci := 1) (C := RX1) (T := TX1) (N := 9) (k := 3) rfl cr_in1 (by decide) ((cr_row_156 w) _) rfl (by decide) fl_X7_265 dX7_addItemRead_4 ?_
  refine jr_if_eq X.c 78 dX7_addItemRead_7 (by decide) (fun q7 => ?_) (fun q7 => ?_)
  · replace h := cr_if_t q7 h
    refine jr_aload_n X.c dX7_addItemRead_78 rfl 0 rfl ?_
    refine jr_get X.c (ci := 7) (C := RX7) (T := TX7) (N := 5) (k := 0) rfl cr_in7 (by decide) ((cr_row_152 w) _) rfl (by decide) fl_X7_10 dX7_addItemRead_79 ?_
    refine jr_aload_n X.c dX7_addItemRead_82 rfl 0 rfl ?_
    refine jr_get X.c (ci := 7) (C := RX7) (T := TX7) (N := 5) (k := 4) rfl cr_in7 (by decide) ((cr_row_152 w) _) rfl (by decide) fl_X7_36 dX7_addItemRead_83 ?_
    refine jr_get X.c (ci := 1) (C := RX1) (T := TX1) (N := 9) (k := 4) rfl cr_in1 (by decide) ((cr_row_156 w) _) rfl (by decide) fl_X7_268 dX7_addItemRead_86 ?_
    refine jr_aload_n X.c dX7_addItemRead_89 rfl 0 rfl ?_
    refine jr_get X.c (ci := 7) (C := RX7) (T := TX7) (N := 5) (k := 4) rfl cr_in7 (by decide) ((cr_row_152 w) _) rfl (by decide) fl_X7_36 dX7_addItemRead_90 ?_
    refine jr_get X.c (ci := 1) (C := RX1) (T := TX1) (N := 9) (k := 5) rfl cr_in1 (by decide) ((cr_row_156 w) _) rfl (by decide) fl_X7_269 dX7_addItemRead_93 ?_
    refine jr_aload_n X.c dX7_addItemRead_96 rfl 0 rfl ?_
    refine jr_get X.c (ci := 7) (C := RX7) (T := TX7) (N := 5) (k := 4) rfl cr_in7 (by decide) ((cr_row_152 w) _) rfl (by decide) fl_X7_36 dX7_addItemRead_97 ?_
    refine jr_get X.c (ci := 1) (C := RX1) (T := TX1) (N := 9) (k := 7) rfl cr_in1 (by decide) ((cr_row_156 w) _) rfl (by decide) fl_X7_271 dX7_addItemRead_100 ?_
    refine jr_aload_n X.c dX7_addItemRead_103 rfl 0 rfl ?_
    refine jr_get X.c (ci := 7) (C := RX7) (T := TX7) (N := 5) (k := 4) rfl cr_in7 (by decide) ((cr_row_152 w) _) rfl (by decide) fl_X7_36 dX7_addItemRead_104 ?_
    refine jr_get X.c (ci := 1) (C := RX1) (T := TX1) (N := 9) (k := 8) rfl cr_in1 (by decide) ((cr_row_156 w) _) rfl (by decide) fl_X7_272 dX7_addItemRead_107 ?_
    obtain ⟨r110, hr110, h⟩ := cr_bd_s h
    refine jc_Vi X.c (As := [.int (V 156 4), .int (V 156 5), .int (V 156 7), .int (V 156 8)]) (V1 := V) (C := RX3) (T := TX3) (N := 10) (ci := 3) 4 (m_X3_refusalOfMarble l w V 0 (V 156 4) (V 156 5) (V 156 7) (V 156 8) cr_pg0 r110 hr110) ⟨rfl, rfl⟩ ml_X7_40 im_X3_refusalOfMarble sl_X3_refusalOfMarble in_X3 cd_X3_refusalOfMarble hd_X3_refusalOfMarble ⟨Nat.le_of_ble_eq_true rfl, Nat.le_of_ble_eq_true rfl⟩ ⟨Nat.le_of_ble_eq_true rfl, Nat.le_of_ble_eq_true rfl⟩ rfl (Nat.le_of_ble_eq_true rfl) (cr_l_pg cr_pg0) ((cr_row_pg w cr_pg0) _) rfl rfl dX7_addItemRead_110 ?_
    refine jr_if_ne X.c 158 dX7_addItemRead_113 (by decide) (fun q113 => ?_) (fun q113 => ?_)
    · replace h := cr_if_f q113 h
      refine jr_iconst X.c (v := (0 : Int32)) dX7_addItemRead_158 (by decide) ?_
      cases h
      exact jr_zret X.c (r := (0 : Int32)) hr0 (by decide) dX7_addItemRead_159
    · replace h := cr_if_t q113 h
      refine jr_aload_n X.c dX7_addItemRead_116 rfl 0 rfl ?_
      refine jr_get X.c (ci := 7) (C := RX7) (T := TX7) (N := 5) (k := 0) rfl cr_in7 (by decide) ((cr_row_152 w) _) rfl (by decide) fl_X7_10 dX7_addItemRead_117 ?_
      refine jr_aload_n X.c dX7_addItemRead_120 rfl 0 rfl ?_
      refine jr_get X.c (ci := 7) (C := RX7) (T := TX7) (N := 5) (k := 4) rfl cr_in7 (by decide) ((cr_row_152 w) _) rfl (by decide) fl_X7_36 dX7_addItemRead_121 ?_
      refine jr_get X.c (ci := 1) (C := RX1) (T := TX1) (N := 9) (k := 4) rfl cr_in1 (by decide) ((cr_row_156 w) _) rfl (by decide) fl_X7_268 dX7_addItemRead_124 ?_
      refine jr_aload_n X.c dX7_addItemRead_127 rfl 0 rfl ?_
      refine jr_get X.c (ci := 7) (C := RX7) (T := TX7) (N := 5) (k := 4) rfl cr_in7 (by decide) ((cr_row_152 w) _) rfl (by decide) fl_X7_36 dX7_addItemRead_128 ?_
      refine jr_get X.c (ci := 1) (C := RX1) (T := TX1) (N := 9) (k := 5) rfl cr_in1 (by decide) ((cr_row_156 w) _) rfl (by decide) fl_X7_269 dX7_addItemRead_131 ?_
      refine jr_aload_n X.c dX7_addItemRead_134 rfl 0 rfl ?_
      refine jr_get X.c (ci := 7) (C := RX7) (T := TX7) (N := 5) (k := 4) rfl cr_in7 (by decide) ((cr_row_152 w) _) rfl (by decide) fl_X7_36 dX7_addItemRead_135 ?_
      refine jr_get X.c (ci := 1) (C := RX1) (T := TX1) (N := 9) (k := 7) rfl cr_in1 (by decide) ((cr_row_156 w) _) rfl (by decide) fl_X7_271 dX7_addItemRead_138 ?_
      refine jr_aload_n X.c dX7_addItemRead_141 rfl 0 rfl ?_
      refine jr_get X.c (ci := 7) (C := RX7) (T := TX7) (N := 5) (k := 4) rfl cr_in7 (by decide) ((cr_row_152 w) _) rfl (by decide) fl_X7_36 dX7_addItemRead_142 ?_
      refine jr_get X.c (ci := 1) (C := RX1) (T := TX1) (N := 9) (k := 8) rfl cr_in1 (by decide) ((cr_row_156 w) _) rfl (by decide) fl_X7_272 dX7_addItemRead_145 ?_
      obtain ⟨r148, V148, hr148, h⟩ := cr_b2_s h
      refine jc_Vi X.c (As := [.int (V 156 4), .int (V 156 5), .int (V 156 7), .int (V 156 8)]) (V1 := V148) (C := RX3) (T := TX3) (N := 10) (ci := 3) 4 (m_X3_addMarble l w V 0 (V 156 4) (V 156 5) (V 156 7) (V 156 8) cr_pg0 (r148, V148) hr148) ⟨rfl, rfl⟩ ml_X7_48 im_X3_addMarble sl_X3_addMarble in_X3 cd_X3_addMarble hd_X3_addMarble ⟨Nat.le_of_ble_eq_true rfl, Nat.le_of_ble_eq_true rfl⟩ ⟨Nat.le_of_ble_eq_true rfl, Nat.le_of_ble_eq_true rfl⟩ rfl (Nat.le_of_ble_eq_true rfl) (cr_l_pg cr_pg0) ((cr_row_pg w cr_pg0) _) rfl rfl dX7_addItemRead_148 ?_
      refine jr_if_lt X.c 158 dX7_addItemRead_151 (by decide) (fun q151 => ?_) (fun q151 => ?_)
      · replace h := cr_if_t q151 h
        refine jr_iconst X.c (v := (0 : Int32)) dX7_addItemRead_158 (by decide) ?_
        cases h
        exact jr_zret X.c (r := (0 : Int32)) hr0 (by decide) dX7_addItemRead_159
      · replace h := cr_if_f q151 h
        refine jr_iconst X.c (v := (1 : Int32)) dX7_addItemRead_154 (by decide) ?_
        refine jr_goto X.c 159 dX7_addItemRead_155 (by decide) ?_
        cases h
        exact jr_zret X.c (r := (1 : Int32)) hr0 (by decide) dX7_addItemRead_159
  · replace h := cr_if_f q7 h
    refine jr_aload_n X.c dX7_addItemRead_10 rfl 0 rfl ?_
    refine jr_get X.c (ci := 7) (C := RX7) (T := TX7) (N := 5) (k := 0) rfl cr_in7 (by decide) ((cr_row_152 w) _) rfl (by decide) fl_X7_10 dX7_addItemRead_11 ?_
    refine jr_aload_n X.c dX7_addItemRead_14 rfl 0 rfl ?_
    refine jr_get X.c (ci := 7) (C := RX7) (T := TX7) (N := 5) (k := 4) rfl cr_in7 (by decide) ((cr_row_152 w) _) rfl (by decide) fl_X7_36 dX7_addItemRead_15 ?_
    refine jr_get X.c (ci := 1) (C := RX1) (T := TX1) (N := 9) (k := 4) rfl cr_in1 (by decide) ((cr_row_156 w) _) rfl (by decide) fl_X7_268 dX7_addItemRead_18 ?_
    refine jr_aload_n X.c dX7_addItemRead_21 rfl 0 rfl ?_
    refine jr_get X.c (ci := 7) (C := RX7) (T := TX7) (N := 5) (k := 4) rfl cr_in7 (by decide) ((cr_row_152 w) _) rfl (by decide) fl_X7_36 dX7_addItemRead_22 ?_
    refine jr_get X.c (ci := 1) (C := RX1) (T := TX1) (N := 9) (k := 5) rfl cr_in1 (by decide) ((cr_row_156 w) _) rfl (by decide) fl_X7_269 dX7_addItemRead_25 ?_
    refine jr_aload_n X.c dX7_addItemRead_28 rfl 0 rfl ?_
    refine jr_get X.c (ci := 7) (C := RX7) (T := TX7) (N := 5) (k := 4) rfl cr_in7 (by decide) ((cr_row_152 w) _) rfl (by decide) fl_X7_36 dX7_addItemRead_29 ?_
    refine jr_get X.c (ci := 1) (C := RX1) (T := TX1) (N := 9) (k := 6) rfl cr_in1 (by decide) ((cr_row_156 w) _) rfl (by decide) fl_X7_270 dX7_addItemRead_32 ?_
    obtain ⟨r35, hr35, h⟩ := cr_bd_s h
    refine jc_Vi X.c (As := [.int (V 156 4), .int (V 156 5), .int (V 156 6)]) (V1 := V) (C := RX3) (T := TX3) (N := 10) (ci := 3) 3 (m_X3_refusalOfRing l w V 0 (V 156 4) (V 156 5) (V 156 6) cr_pg0 r35 hr35) ⟨rfl, rfl⟩ ml_X7_51 im_X3_refusalOfRing sl_X3_refusalOfRing in_X3 cd_X3_refusalOfRing hd_X3_refusalOfRing ⟨Nat.le_of_ble_eq_true rfl, Nat.le_of_ble_eq_true rfl⟩ ⟨Nat.le_of_ble_eq_true rfl, Nat.le_of_ble_eq_true rfl⟩ rfl (Nat.le_of_ble_eq_true rfl) (cr_l_pg cr_pg0) ((cr_row_pg w cr_pg0) _) rfl rfl dX7_addItemRead_35 ?_
    refine jr_if_ne X.c 76 dX7_addItemRead_38 (by decide) (fun q38 => ?_) (fun q38 => ?_)
    · replace h := cr_if_f q38 h
      refine jr_iconst X.c (v := (0 : Int32)) dX7_addItemRead_76 (by decide) ?_
      cases h
      exact jr_zret X.c (r := (0 : Int32)) hr0 (by decide) dX7_addItemRead_77
    · replace h := cr_if_t q38 h
      refine jr_aload_n X.c dX7_addItemRead_41 rfl 0 rfl ?_
      refine jr_get X.c (ci := 7) (C := RX7) (T := TX7) (N := 5) (k := 0) rfl cr_in7 (by decide) ((cr_row_152 w) _) rfl (by decide) fl_X7_10 dX7_addItemRead_42 ?_
      refine jr_aload_n X.c dX7_addItemRead_45 rfl 0 rfl ?_
      refine jr_get X.c (ci := 7) (C := RX7) (T := TX7) (N := 5) (k := 4) rfl cr_in7 (by decide) ((cr_row_152 w) _) rfl (by decide) fl_X7_36 dX7_addItemRead_46 ?_
      refine jr_get X.c (ci := 1) (C := RX1) (T := TX1) (N := 9) (k := 4) rfl cr_in1 (by decide) ((cr_row_156 w) _) rfl (by decide) fl_X7_268 dX7_addItemRead_49 ?_
      refine jr_aload_n X.c dX7_addItemRead_52 rfl 0 rfl ?_
      refine jr_get X.c (ci := 7) (C := RX7) (T := TX7) (N := 5) (k := 4) rfl cr_in7 (by decide) ((cr_row_152 w) _) rfl (by decide) fl_X7_36 dX7_addItemRead_53 ?_
      refine jr_get X.c (ci := 1) (C := RX1) (T := TX1) (N := 9) (k := 5) rfl cr_in1 (by decide) ((cr_row_156 w) _) rfl (by decide) fl_X7_269 dX7_addItemRead_56 ?_
      refine jr_aload_n X.c dX7_addItemRead_59 rfl 0 rfl ?_
      refine jr_get X.c (ci := 7) (C := RX7) (T := TX7) (N := 5) (k := 4) rfl cr_in7 (by decide) ((cr_row_152 w) _) rfl (by decide) fl_X7_36 dX7_addItemRead_60 ?_
      refine jr_get X.c (ci := 1) (C := RX1) (T := TX1) (N := 9) (k := 6) rfl cr_in1 (by decide) ((cr_row_156 w) _) rfl (by decide) fl_X7_270 dX7_addItemRead_63 ?_
      obtain ⟨r66, V66, hr66, h⟩ := cr_b2_s h
      refine jc_Vi X.c (As := [.int (V 156 4), .int (V 156 5), .int (V 156 6)]) (V1 := V66) (C := RX3) (T := TX3) (N := 10) (ci := 3) 3 (m_X3_addRing l w V 0 (V 156 4) (V 156 5) (V 156 6) cr_pg0 (r66, V66) hr66) ⟨rfl, rfl⟩ ml_X7_55 im_X3_addRing sl_X3_addRing in_X3 cd_X3_addRing hd_X3_addRing ⟨Nat.le_of_ble_eq_true rfl, Nat.le_of_ble_eq_true rfl⟩ ⟨Nat.le_of_ble_eq_true rfl, Nat.le_of_ble_eq_true rfl⟩ rfl (Nat.le_of_ble_eq_true rfl) (cr_l_pg cr_pg0) ((cr_row_pg w cr_pg0) _) rfl rfl dX7_addItemRead_66 ?_
      refine jr_if_lt X.c 76 dX7_addItemRead_69 (by decide) (fun q69 => ?_) (fun q69 => ?_)
      · replace h := cr_if_t q69 h
        refine jr_iconst X.c (v := (0 : Int32)) dX7_addItemRead_76 (by decide) ?_
        cases h
        exact jr_zret X.c (r := (0 : Int32)) hr0 (by decide) dX7_addItemRead_77
      · replace h := cr_if_f q69 h
        refine jr_iconst X.c (v := (1 : Int32)) dX7_addItemRead_72 (by decide) ?_
        refine jr_goto X.c 77 dX7_addItemRead_73 (by decide) ?_
        cases h
        exact jr_zret X.c (r := (1 : Int32)) hr0 (by decide) dX7_addItemRead_77
set_option maxRecDepth 100000 in
set_option maxHeartbeats 4000000 in
theorem m_X7_addItemRead (l : Launch) (w : cr_Wd) (V : cr_Hp)   (x : Int32 × cr_Hp) (h : f_X7_addItemRead  V = some x) : Met l yX7_addItemRead (cr_wds yX7_addItemRead cX7_addItemRead 1 (some .boolean)) rm_X7_addItemRead (cr_Pc w V [.ref (w.1 152)]) (cr_Qi w x.2 x.1) 0 0 (cr_A w) := by
  refine cr_met (own := RX7) (lv := [(0, .ref (w.1 152))]) (by decide +kernel) rfl (Nat.le_of_ble_eq_true rfl) rfl (fun p e s m args below meth c X hr0 => ?_)
  exact t_X7_addItemRead X  V  hr0 x h
