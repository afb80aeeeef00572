abbrev rm_X3_markAhead : Room := { frames := 2, cells := 0, slots := 0, locals := 49 }
theorem hd_X3_markAhead : yX3_markAhead.cls = RX3 ∧ yX3_markAhead.cls ≠ "java/lang/invoke/MethodHandle" ∧ yX3_markAhead.cls ≠ "java/lang/invoke/VarHandle" ∧ (parseMethodDescriptor yX3_markAhead.desc).map (fun d => d.parameters.length) = some 0 := by decide +kernel
def f_X3_markAhead_l10 (a0 : Nat) (x3_10 : Int32) (V_l10 : cr_Hp) : Option ((Int32 × cr_Hp) ⊕ cr_Hp) :=
  if (12 : Int32) ≤ x3_10 then (some (.inr V_l10)) else (cr_gd (cr_ix x3_10 12) (if (V_l10 ((a0 + 1) + 2 + x3_10.toNatClampNeg) 6) = 0 then (cr_lt (cr_pt V_l10 ((a0 + 1) + 2 + x3_10.toNatClampNeg) 7 (0 : Int32)) (fun (V53 : cr_Hp) => cr_lt (cr_pt V53 ((a0 + 1) + 2 + x3_10.toNatClampNeg) 8 (0 : Int32)) (fun (V59 : cr_Hp) => some (.inl ((x3_10 + (1 : Int32)), V59))))) else (cr_bd (f_X3_ringsAround a0 (V_l10 ((a0 + 1) + 2 + x3_10.toNatClampNeg) 1) (V_l10 ((a0 + 1) + 2 + x3_10.toNatClampNeg) 2) V_l10) (fun (r46 : Int32) => cr_lt (cr_pt V_l10 ((a0 + 1) + 2 + x3_10.toNatClampNeg) 7 r46) (fun (V53 : cr_Hp) => cr_lt (cr_pt V53 ((a0 + 1) + 2 + x3_10.toNatClampNeg) 8 (0 : Int32)) (fun (V59 : cr_Hp) => some (.inl ((x3_10 + (1 : Int32)), V59))))))))
set_option maxRecDepth 100000 in
set_option maxHeartbeats 4000000 in
theorem t_X3_markAhead_l10 {p : Program} {l : Launch} {e : Env} {s : State} {m : MethodId} {args : Array Value} {below : List Frame} {meth : Method} {c : Code} {w : cr_Wd} {Q : State → Prop} (X : cr_Cx w RX3 (Cond.code yX3_markAhead cX3_markAhead 5 none) cX3_markAhead 5 p s m args meth c) (a0 : Nat) (x3_10 : Int32) (V_l10 : cr_Hp) (ha0 : cr_pg a0) (x : (Int32 × cr_Hp) ⊕ cr_Hp) (h : f_X3_markAhead_l10 a0 x3_10 V_l10 = some x) (kl : ∀ (x3_10 : Int32) (V_l10 : cr_Hp), x = .inl (x3_10, V_l10) → cr_J w 5 p l e rm_X3_markAhead s m args below meth c 0 0 Q V_l10 10 [(0, .ref (w.1 a0)), (1, .ref (w.1 (a0 + 1))), (2, .int (12 : Int32)), (3, .int x3_10)] []) (kr68 : ∀ (V_e10_68 : cr_Hp), x = .inr V_e10_68 → cr_J w 5 p l e rm_X3_markAhead s m args below meth c 0 0 Q V_e10_68 68 [] []) : cr_J w 5 p l e rm_X3_markAhead s m args below meth c 0 0 Q V_l10 10 [(0, .ref (w.1 a0)), (1, .ref (w.1 (a0 + 1))), (2, .int (12 : Int32)), (3, .int x3_10)] [] := by
  unfold f_X3_markAhead_l10 at h
  refine jr_iload_n X.c dX3_markAhead_10 rfl 3 rfl ?_
  refine jr_iload_n X.c dX3_markAhead_11 rfl 2 rfl ?_
  refine jr_icmp_ge X.c 68 dX3_markAhead_12 (by decide) (fun q12 => ?_) (fun q12 => ?_)
  · replace h := cr_if_t q12 h
    cases h
    refine jr_sub [] rfl ?_
    exact kr68 V_l10 rfl
  · replace h := cr_if_f q12 h
    refine jr_aload_n X.c dX3_markAhead_15 rfl 1 rfl ?_
    refine jr_iload_n X.c dX3_markAhead_16 rfl 3 rfl ?_
    obtain ⟨hi17, h⟩ := cr_gd_s h
    refine jr_aald X.c (f := (fun j => (a0 + 1) + 2 + j)) 2 rfl (cr_l_ms (cr_pg_ms ha0)) ((cr_row_ms w (cr_pg_ms ha0)) _) hi17 dX3_markAhead_17 ?_
    refine jr_astore X.c (lv2 := [(4, .ref (w.1 ((a0 + 1) + 2 + x3_10.toNatClampNeg))), (0, .ref (w.1 a0)), (1, .ref (w.1 (a0 + 1))), (2, .int (12 : Int32)), (3, .int x3_10)]) dX3_markAhead_18 (by decide) rfl ?_
    refine jr_aload X.c dX3_markAhead_20 0 rfl ?_
    refine jr_ifnullR X.c dX3_markAhead_22 ?_
    refine jr_aload X.c dX3_markAhead_25 0 rfl ?_
    refine jr_aload X.c dX3_markAhead_27 0 rfl ?_
    refine jr_get X.c (ci := 2) (C := RX2) (T := TX2) (N := 9) (k := 6) rfl cr_in2 (cr_l_ma (cr_ms_ma (cr_pg_ms ha0) (cr_ix_lt hi17))) ((cr_row_ma w (cr_ms_ma (cr_pg_ms ha0) (cr_ix_lt hi17))) _) rfl (by decide) fl_X3_59 dX3_markAhead_29 ?_
    refine jr_if_eq X.c 52 dX3_markAhead_32 (by decide) (fun q32 => ?_) (fun q32 => ?_)
    · replace h := cr_if_t q32 h
      refine jr_iconst X.c (v := (0 : Int32)) dX3_markAhead_52 (by decide) ?_
      obtain ⟨V53, eV53, h⟩ := cr_lt_s h
      refine jr_put X.c (ci := 2) (C := RX2) (T := TX2) (N := 9) (k := 7) rfl cr_in2 tyX2 tyX2_ok nmX2 (cr_l_ma (cr_ms_ma (cr_pg_ms ha0) (cr_ix_lt hi17))) (cr_row_ma w (cr_ms_ma (cr_pg_ms ha0) (cr_ix_lt hi17))) rfl (Nat.le_of_ble_eq_true rfl) (by decide) rfl rfl rfl fl_X3_116 dX3_markAhead_53 eV53 ?_
      refine jr_aload X.c dX3_markAhead_56 0 rfl ?_
      refine jr_iconst X.c (v := (0 : Int32)) dX3_markAhead_58 (by decide) ?_
      obtain ⟨V59, eV59, h⟩ := cr_lt_s h
      refine jr_put X.c (ci := 2) (C := RX2) (T := TX2) (N := 9) (k := 8) rfl cr_in2 tyX2 tyX2_ok nmX2 (cr_l_ma (cr_ms_ma (cr_pg_ms ha0) (cr_ix_lt hi17))) (cr_row_ma w (cr_ms_ma (cr_pg_ms ha0) (cr_ix_lt hi17))) rfl (Nat.le_of_ble_eq_true rfl) (by decide) rfl (by decide) (by decide) fl_X3_119 dX3_markAhead_59 eV59 ?_
      refine jr_iinc X.c (v := (x3_10 + (1 : Int32))) (lv2 := [(3, .int (x3_10 + (1 : Int32))), (4, .ref (w.1 ((a0 + 1) + 2 + x3_10.toNatClampNeg))), (0, .ref (w.1 a0)), (1, .ref (w.1 (a0 + 1))), (2, .int (12 : Int32))]) dX3_markAhead_62 4 rfl (by rfl) (by decide) rfl ?_
      refine jr_goto X.c 10 dX3_markAhead_65 (by decide) ?_
      cases h
      refine jr_sub [2, 3, 4, 0] rfl ?_
      exact kl (x3_10 + (1 : Int32)) V59 rfl
    · replace h := cr_if_f q32 h
      refine jr_aload_n X.c dX3_markAhead_35 rfl 1 rfl ?_
      refine jr_aload X.c dX3_markAhead_36 0 rfl ?_
      refine jr_get X.c (ci := 2) (C := RX2) (T := TX2) (N := 9) (k := 1) rfl cr_in2 (cr_l_ma (cr_ms_ma (cr_pg_ms ha0) (cr_ix_lt hi17))) ((cr_row_ma w (cr_ms_ma (cr_pg_ms ha0) (cr_ix_lt hi17))) _) rfl (by decide) fl_X3_81 dX3_markAhead_38 ?_
      refine jr_aload X.c dX3_markAhead_41 0 rfl ?_
      refine jr_get X.c (ci := 2) (C := RX2) (T := TX2) (N := 9) (k := 2) rfl cr_in2 (cr_l_ma (cr_ms_ma (cr_pg_ms ha0) (cr_ix_lt hi17))) ((cr_row_ma w (cr_ms_ma (cr_pg_ms ha0) (cr_ix_lt hi17))) _) rfl (by decide) fl_X3_84 dX3_markAhead_43 ?_
      obtain ⟨r46, hr46, h⟩ := cr_bd_s h
      refine jc_Vi X.c (As := [.int (V_l10 ((a0 + 1) + 2 + x3_10.toNatClampNeg) 1), .int (V_l10 ((a0 + 1) + 2 + x3_10.toNatClampNeg) 2)]) (V1 := V_l10) (C := RX3) (T := TX3) (N := 10) (ci := 3) 2 (m_X3_ringsAround l w V_l10 a0 (V_l10 ((a0 + 1) + 2 + x3_10.toNatClampNeg) 1) (V_l10 ((a0 + 1) + 2 + x3_10.toNatClampNeg) 2) ha0 r46 hr46) ⟨rfl, rfl⟩ ml_X3_112 im_X3_ringsAround sl_X3_ringsAround in_X3 cd_X3_ringsAround hd_X3_ringsAround ⟨Nat.le_of_ble_eq_true rfl, Nat.le_of_ble_eq_true rfl⟩ ⟨Nat.le_of_ble_eq_true rfl, Nat.le_of_ble_eq_true rfl⟩ rfl (Nat.le_of_ble_eq_true rfl) (cr_l_pg ha0) ((cr_row_pg w ha0) _) rfl rfl dX3_markAhead_46 ?_
      refine jr_goto X.c 53 dX3_markAhead_49 (by decide) ?_
      obtain ⟨V53, eV53, h⟩ := cr_lt_s h
      refine jr_put X.c (ci := 2) (C := RX2) (T := TX2) (N := 9) (k := 7) rfl cr_in2 tyX2 tyX2_ok nmX2 (cr_l_ma (cr_ms_ma (cr_pg_ms ha0) (cr_ix_lt hi17))) (cr_row_ma w (cr_ms_ma (cr_pg_ms ha0) (cr_ix_lt hi17))) rfl (Nat.le_of_ble_eq_true rfl) (by decide) rfl rfl rfl fl_X3_116 dX3_markAhead_53 eV53 ?_
      refine jr_aload X.c dX3_markAhead_56 0 rfl ?_
      refine jr_iconst X.c (v := (0 : Int32)) dX3_markAhead_58 (by decide) ?_
      obtain ⟨V59, eV59, h⟩ := cr_lt_s h
      refine jr_put X.c (ci := 2) (C := RX2) (T := TX2) (N := 9) (k := 8) rfl cr_in2 tyX2 tyX2_ok nmX2 (cr_l_ma (cr_ms_ma (cr_pg_ms ha0) (cr_ix_lt hi17))) (cr_row_ma w (cr_ms_ma (cr_pg_ms ha0) (cr_ix_lt hi17))) rfl (Nat.le_of_ble_eq_true rfl) (by decide) rfl (by decide) (by decide) fl_X3_119 dX3_markAhead_59 eV59 ?_
      refine jr_iinc X.c (v := (x3_10 + (1 : Int32))) (lv2 := [(3, .int (x3_10 + (1 : Int32))), (4, .ref (w.1 ((a0 + 1) + 2 + x3_10.toNatClampNeg))), (0, .ref (w.1 a0)), (1, .ref (w.1 (a0 + 1))), (2, .int (12 : Int32))]) dX3_markAhead_62 4 rfl (by rfl) (by decide) rfl ?_
      refine jr_goto X.c 10 dX3_markAhead_65 (by decide) ?_
      cases h
      refine jr_sub [2, 3, 4, 0] rfl ?_
      exact kl (x3_10 + (1 : Int32)) V59 rfl
def f_X3_markAhead (a0 : Nat) (V : cr_Hp) : Option (cr_Hp) :=
  cr_bd (cr_it (fun (q : Int32 × cr_Hp) => f_X3_markAhead_l10 a0 q.1 q.2) cr_FU ((0 : Int32), V)) (fun (V_e10_68 : cr_Hp) => some V_e10_68)
set_option maxRecDepth 100000 in
set_option maxHeartbeats 4000000 in
theorem t_X3_markAhead {p : Program} {l : Launch} {e : Env} {s : State} {m : MethodId} {args : Array Value} {below : List Frame} {meth : Method} {c : Code} {w : cr_Wd} (X : cr_Cx w RX3 (Cond.code yX3_markAhead cX3_markAhead 5 none) cX3_markAhead 5 p s m args meth c) (a0 : Nat) (V : cr_Hp) (ha0 : cr_pg a0) (hr0 : meth.sig.returnType = none) (x : cr_Hp) (h : f_X3_markAhead a0 V = some x) : cr_J w 5 p l e rm_X3_markAhead s m args below meth c 0 0 (MQ below (cr_Qv w x) args s 0 0 (cr_A w)) V 0 [(0, .ref (w.1 a0))] [] := by
  unfold f_X3_markAhead at h
  refine jr_aload_n X.c dX3_markAhead_0 rfl 0 rfl ?_
  refine jr_get X.c (ci := 3) (C := RX3) (T := TX3) (N := 10) (k := 0) rfl cr_in3 (cr_l_pg ha0) ((cr_row_pg w ha0) _) rfl (by decide) fl_X3_11 dX3_markAhead_1 ?_
  refine jr_astore_n X.c (lv2 := [(1, .ref (w.1 (a0 + 1))), (0, .ref (w.1 a0))]) dX3_markAhead_4 rfl (by decide) rfl ?_
  refine jr_aload_n X.c dX3_markAhead_5 rfl 0 rfl ?_
  refine jr_alen X.c (v := (12 : Int32)) 2 rfl (cr_l_ms (cr_pg_ms ha0)) ((cr_row_ms w (cr_pg_ms ha0)) _) rfl dX3_markAhead_6 ?_
  refine jr_istore_n X.c (lv2 := [(2, .int (12 : Int32)), (1, .ref (w.1 (a0 + 1))), (0, .ref (w.1 a0))]) dX3_markAhead_7 rfl (by decide) rfl ?_
  refine jr_iconst X.c (v := (0 : Int32)) dX3_markAhead_8 (by decide) ?_
  refine jr_istore_n X.c (lv2 := [(3, .int (0 : Int32)), (2, .int (12 : Int32)), (1, .ref (w.1 (a0 + 1))), (0, .ref (w.1 a0))]) dX3_markAhead_9 rfl (by decide) rfl ?_
  obtain ⟨e10, he10, h⟩ := cr_bd_s h
  have kx68 : ∀ (V_e10_68 : cr_Hp), e10 = V_e10_68 → cr_J w 5 p l e rm_X3_markAhead s m args below meth c 0 0 (MQ below (cr_Qv w x) args s 0 0 (cr_A w)) V_e10_68 68 [] [] := by
    intro V_e10_68 qx
    rw [qx] at h
    cases h
    exact jr_vret X.c hr0 dX3_markAhead_68
  refine jr_sub [3, 2, 1, 0] rfl ?_
  refine cr_it_W (f := (fun (q : Int32 × cr_Hp) => f_X3_markAhead_l10 a0 q.1 q.2)) (P := fun (q : Int32 × cr_Hp) => cr_J w 5 p l e rm_X3_markAhead s m args below meth c 0 0 (MQ below (cr_Qv w x) args s 0 0 (cr_A w)) q.2 10 [(0, .ref (w.1 a0)), (1, .ref (w.1 (a0 + 1))), (2, .int (12 : Int32)), (3, .int q.1)] []) (K := fun z => z = e10) (fun q x hx kl kr => ?_) cr_FU ((0 : Int32), V) e10 he10 rfl
  obtain ⟨x3_10, V_l10⟩ := q
  exact t_X3_markAhead_l10 X a0 x3_10 V_l10 ha0 x hx (fun x3_10 V_l10 ez => kl _ ez) (fun V_e10_68 ez => kx68 V_e10_68 ((kr _ ez).symm))
set_option maxRecDepth 100000 in
set_option maxHeartbeats 4000000 in
theorem m_X3_markAhead (l : Launch) (w : cr_Wd) (V : cr_Hp) (a0 : Nat) (ha0 : cr_pg a0) (x : cr_Hp) (h : f_X3_markAhead a0 V = some x) : Met l yX3_markAhead (cr_wds yX3_markAhead cX3_markAhead 5 none) rm_X3_markAhead (cr_Pc w V [.ref (w.1 a0)]) (cr_Qv w x) 0 0 (cr_A w) := by
  refine cr_met (own := RX3) (lv := [(0, .ref (w.1 a0))]) (by decide +kernel) rfl (Nat.le_of_ble_eq_true rfl) rfl (fun p e s m args below meth c X hr0 => ?_)
  exact t_X3_markAhead X a0 V ha0 hr0 x h
abbrev rm_X5_turnAtWalls : Room := { frames := 0, cells := 0, slots := 0, locals := 0 }
theorem hd_X5_turnAtWalls : yX5_turnAtWalls.cls = RX5 ∧ yX5_turnAtWalls.cls ≠ "java/lang/invoke/MethodHandle" ∧ yX5_turnAtWalls.cls ≠ "java/lang/invoke/VarHandle" ∧ (parseMethodDescriptor yX5_turnAtWalls.desc).map (fun d => d.parameters.length) = some 1 := by decide +kernel
def f_X5_turnAtWalls_b71  (V_45 : cr_Hp) : Option (cr_Hp) :=
  cr_lt (cr_pt V_45 153 9 (-(V_45 153 9))) (fun (V77 : cr_Hp) => cr_lt (cr_pt V77 153 6 ((V77 153 6) + (1 : Int32))) (fun (V87 : cr_Hp) => some V87))
set_option maxRecDepth 100000 in
set_option maxHeartbeats 4000000 in
theorem t_X5_turnAtWalls_b71 {p : Program} {l : Launch} {e : Env} {s : State} {m : MethodId} {args : Array Value} {below : List Frame} {meth : Method} {c : Code} {w : cr_Wd} (X : cr_Cx w RX5 (Cond.code yX5_turnAtWalls cX5_turnAtWalls 2 none) cX5_turnAtWalls 2 p s m args meth c)  (V_45 : cr_Hp)  (hr0 : meth.sig.returnType = none) (x : cr_Hp) (h : f_X5_turnAtWalls_b71  V_45 = some x) : cr_J w 2 p l e rm_X5_turnAtWalls s m args below meth c 0 0 (MQ below (cr_Qv w x) args s 0 0 (cr_A w)) V_45 71 [(0, .ref (w.1 153))] [] := by
  unfold f_X5_turnAtWalls_b71 at h
  refine jr_aload_n X.c dX5_turnAtWalls_71 rfl 0 rfl ?_
  refine jr_aload_n X.c dX5_turnAtWalls_72 rfl 0 rfl ?_
  refine jr_get X.c (ci := 5) (C := RX5) (T := TX5) (N := 10) (k := 9) rfl cr_in5 (Or.inl (by decide)) ((cr_row_153 w) _) rfl (by decide) fl_X5_37 dX5_turnAtWalls_73 ?_
  refine jr_ineg X.c dX5_turnAtWalls_76 ?_
  obtain ⟨V77, eV77, h⟩ := cr_lt_s h
  refine jr_put X.c (ci := 5) (C := RX5) (T := TX5) (N := 10) (k := 9) rfl cr_in5 tyX5 tyX5_ok nmX5 (Or.inl (by decide)) (cr_row_153 w) rfl (Nat.le_of_ble_eq_true rfl) (by decide) rfl rfl rfl fl_X5_37 dX5_turnAtWalls_77 eV77 ?_
  refine jr_aload_n X.c dX5_turnAtWalls_80 rfl 0 rfl ?_
  refine jr_dup X.c dX5_turnAtWalls_81 rfl ?_
  refine jr_get X.c (ci := 5) (C := RX5) (T := TX5) (N := 10) (k := 6) rfl cr_in5 (Or.inl (by decide)) ((cr_row_153 w) _) rfl (by decide) fl_X5_21 dX5_turnAtWalls_82 ?_
  refine jr_iconst X.c (v := (1 : Int32)) dX5_turnAtWalls_85 (by decide) ?_
  refine jr_iadd X.c dX5_turnAtWalls_86 ?_
  obtain ⟨V87, eV87, h⟩ := cr_lt_s h
  refine jr_put X.c (ci := 5) (C := RX5) (T := TX5) (N := 10) (k := 6) rfl cr_in5 tyX5 tyX5_ok nmX5 (Or.inl (by decide)) (cr_row_153 w) rfl (Nat.le_of_ble_eq_true rfl) (by decide) rfl rfl rfl fl_X5_21 dX5_turnAtWalls_87 eV87 ?_
  cases h
  exact jr_vret X.c hr0 dX5_turnAtWalls_90
def f_X5_turnAtWalls_b45 (p1 : Nat) (V_45 : cr_Hp) : Option (cr_Hp) :=
  if ((V_45 p1 2) + (V_45 153 9)) < 0 then (f_X5_turnAtWalls_b71  V_45) else (if ((V_45 p1 2) + (V_45 153 9)) ≤ (30 : Int32) then (some V_45) else (f_X5_turnAtWalls_b71  V_45))
set_option maxRecDepth 100000 in
set_option maxHeartbeats 4000000 in
theorem t_X5_turnAtWalls_b45 {p : Program} {l : Launch} {e : Env} {s : State} {m : MethodId} {args : Array Value} {below : List Frame} {meth : Method} {c : Code} {w : cr_Wd} (X : cr_Cx w RX5 (Cond.code yX5_turnAtWalls cX5_turnAtWalls 2 none) cX5_turnAtWalls 2 p s m args meth c) (p1 : Nat) (V_45 : cr_Hp) (hp1 : cr_ma p1) (hr0 : meth.sig.returnType = none) (x : cr_Hp) (h : f_X5_turnAtWalls_b45 p1 V_45 = some x) : cr_J w 2 p l e rm_X5_turnAtWalls s m args below meth c 0 0 (MQ below (cr_Qv w x) args s 0 0 (cr_A w)) V_45 45 [(0, .ref (w.1 153)), (1, .ref (w.1 p1))] [] := by
  unfold f_X5_turnAtWalls_b45 at h
  refine jr_aload_n X.c dX5_turnAtWalls_45 rfl 1 rfl ?_
  refine jr_get X.c (ci := 2) (C := RX2) (T := TX2) (N := 9) (k := 2) rfl cr_in2 (cr_l_ma hp1) ((cr_row_ma w hp1) _) rfl (by decide) fl_X5_98 dX5_turnAtWalls_46 ?_
  refine jr_aload_n X.c dX5_turnAtWalls_49 rfl 0 rfl ?_
  refine jr_get X.c (ci := 5) (C := RX5) (T := TX5) (N := 10) (k := 9) rfl cr_in5 (Or.inl (by decide)) ((cr_row_153 w) _) rfl (by decide) fl_X5_37 dX5_turnAtWalls_50 ?_
  refine jr_iadd X.c dX5_turnAtWalls_53 ?_
  refine jr_if_lt X.c 71 dX5_turnAtWalls_54 (by decide) (fun q54 => ?_) (fun q54 => ?_)
  · replace h := cr_if_t q54 h
    refine jr_sub [0] rfl ?_
    exact t_X5_turnAtWalls_b71 X  V_45  hr0 x  h
  · replace h := cr_if_f q54 h
    refine jr_aload_n X.c dX5_turnAtWalls_57 rfl 1 rfl ?_
    refine jr_get X.c (ci := 2) (C := RX2) (T := TX2) (N := 9) (k := 2) rfl cr_in2 (cr_l_ma hp1) ((cr_row_ma w hp1) _) rfl (by decide) fl_X5_98 dX5_turnAtWalls_58 ?_
    refine jr_aload_n X.c dX5_turnAtWalls_61 rfl 0 rfl ?_
    refine jr_get X.c (ci := 5) (C := RX5) (T := TX5) (N := 10) (k := 9) rfl cr_in5 (Or.inl (by decide)) ((cr_row_153 w) _) rfl (by decide) fl_X5_37 dX5_turnAtWalls_62 ?_
    refine jr_iadd X.c dX5_turnAtWalls_65 ?_
    refine jr_bipush X.c (v := (30 : Int32)) dX5_turnAtWalls_66 (by decide) ?_
    refine jr_icmp_le X.c 90 dX5_turnAtWalls_68 (by decide) (fun q68 => ?_) (fun q68 => ?_)
    · replace h := cr_if_t q68 h
      cases h
      exact jr_vret X.c hr0 dX5_turnAtWalls_90
    · replace h := cr_if_f q68 h
      refine jr_sub [0] rfl ?_
      exact t_X5_turnAtWalls_b71 X  V_45  hr0 x  h
def f_X5_turnAtWalls_b26 (p1 : Nat) (V : cr_Hp) : Option (cr_Hp) :=
  cr_lt (cr_pt V 153 8 (-(V 153 8))) (fun (V32 : cr_Hp) => cr_lt (cr_pt V32 153 6 ((V32 153 6) + (1 : Int32))) (fun (V42 : cr_Hp) => f_X5_turnAtWalls_b45 p1 V42))
set_option maxRecDepth 100000 in
set_option maxHeartbeats 4000000 in
theorem t_X5_turnAtWalls_b26 {p : Program} {l : Launch} {e : Env} {s : State} {m : MethodId} {args : Array Value} {below : List Frame} {meth : Method} {c : Code} {w : cr_Wd} (X : cr_Cx w RX5 (Cond.code yX5_turnAtWalls cX5_turnAtWalls 2 none) cX5_turnAtWalls 2 p s m args meth c) (p1 : Nat) (V : cr_Hp) (hp1 : cr_ma p1) (hr0 : meth.sig.returnType = none) (x : cr_Hp) (h : f_X5_turnAtWalls_b26 p1 V = some x) : cr_J w 2 p l e rm_X5_turnAtWalls s m args below meth c 0 0 (MQ below (cr_Qv w x) args s 0 0 (cr_A w)) V 26 [(0, .ref (w.1 153)), (1, .ref (w.1 p1))] [] := by
  unfold f_X5_turnAtWalls_b26 at h
  refine jr_aload_n X.c dX5_turnAtWalls_26 rfl 0 rfl ?_
  refine jr_aload_n X.c dX5_turnAtWalls_27 rfl 0 rfl ?_
  refine jr_get X.c (ci := 5) (C := RX5) (T := TX5) (N := 10) (k := 8) rfl cr_in5 (Or.inl (by decide)) ((cr_row_153 w) _) rfl (by decide) fl_X5_31 dX5_turnAtWalls_28 ?_
  refine jr_ineg X.c dX5_turnAtWalls_31 ?_
  obtain ⟨V32, eV32, h⟩ := cr_lt_s h
  refine jr_put X.c (ci := 5) (C := RX5) (T := TX5) (N := 10) (k := 8) rfl cr_in5 tyX5 tyX5_ok nmX5 (Or.inl (by decide)) (cr_row_153 w) rfl (Nat.le_of_ble_eq_true rfl) (by decide) rfl rfl rfl fl_X5_31 dX5_turnAtWalls_32 eV32 ?_
  refine jr_aload_n X.c dX5_turnAtWalls_35 rfl 0 rfl ?_
  refine jr_dup X.c dX5_turnAtWalls_36 rfl ?_
  refine jr_get X.c (ci := 5) (C := RX5) (T := TX5) (N := 10) (k := 6) rfl cr_in5 (Or.inl (by decide)) ((cr_row_153 w) _) rfl (by decide) fl_X5_21 dX5_turnAtWalls_37 ?_
  refine jr_iconst X.c (v := (1 : Int32)) dX5_turnAtWalls_40 (by decide) ?_
  refine jr_iadd X.c dX5_turnAtWalls_41 ?_
  obtain ⟨V42, eV42, h⟩ := cr_lt_s h
  refine jr_put X.c (ci := 5) (C := RX5) (T := TX5) (N := 10) (k := 6) rfl cr_in5 tyX5 tyX5_ok nmX5 (Or.inl (by decide)) (cr_row_153 w) rfl (Nat.le_of_ble_eq_true rfl) (by decide) rfl rfl rfl fl_X5_21 dX5_turnAtWalls_42 eV42 ?_
  refine jr_sub [0, 1] rfl ?_
  exact t_X5_turnAtWalls_b45 X p1 V42 hp1 hr0 x  h
def f_X5_turnAtWalls (p1 : Nat) (V : cr_Hp) : Option (cr_Hp) :=
  if ((V p1 1) + (V 153 8)) < 0 then (f_X5_turnAtWalls_b26 p1 V) else (if ((V p1 1) + (V 153 8)) ≤ (30 : Int32) then (f_X5_turnAtWalls_b45 p1 V) else (f_X5_turnAtWalls_b26 p1 V))
set_option maxRecDepth 100000 in
set_option maxHeartbeats 4000000 in
theorem t_X5_turnAtWalls {p : Program} {l : Launch} {e : Env} {s : State} {m : MethodId} {args : Array Value} {below : List Frame} {meth : Method} {c : Code} {w : cr_Wd} (X : cr_Cx w RX5 (Cond.code yX5_turnAtWalls cX5_turnAtWalls 2 none) cX5_turnAtWalls 2 p s m args meth c) (p1 : Nat) (V : cr_Hp) (hp1 : cr_ma p1) (hr0 : meth.sig.returnType = none) (x : cr_Hp) (h : f_X5_turnAtWalls p1 V = some x) : cr_J w 2 p l e rm_X5_turnAtWalls s m args below meth c 0 0 (MQ below (cr_Qv w x) args s 0 0 (cr_A w)) V 0 [(0, .ref (w.1 153)), (1, .ref (w.1 p1))] [] := by
  unfold f_X5_turnAtWalls at h
  refine jr_aload_n X.c dX5_turnAtWalls_0 rfl 1 rfl ?_
  refine jr_get X.c (ci := 2) (C := RX2) (T := TX2) (N := 9) (k := 1) rfl cr_in2 (cr_l_ma hp1) ((cr_row_ma w hp1) _) rfl (by decide) fl_X5_92 dX5_turnAtWalls_1 ?_
  refine jr_aload_n X.c dX5_turnAtWalls_4 rfl 0 rfl ?_
  refine jr_get X.c (ci := 5) (C := RX5) (T := TX5) (N := 10) (k := 8) rfl cr_in5 (Or.inl (by decide)) ((cr_row_153 w) _) rfl (by decide) fl_X5_31 dX5_turnAtWalls_5 ?_
  refine jr_iadd X.c dX5_turnAtWalls_8 ?_
  refine jr_if_lt X.c 26 dX5_turnAtWalls_9 (by decide) (fun q9 => ?_) (fun q9 => ?_)
  · replace h := cr_if_t q9 h
    refine jr_sub [0, 1] rfl ?_
    exact t_X5_turnAtWalls_b26 X p1 V hp1 hr0 x  h
  · replace h := cr_if_f q9 h
    refine jr_aload_n X.c dX5_turnAtWalls_12 rfl 1 rfl ?_
    refine jr_get X.c (ci := 2) (C := RX2) (T := TX2) (N := 9) (k := 1) rfl cr_in2 (cr_l_ma hp1) ((cr_row_ma w hp1) _) rfl (by decide) fl_X5_92 dX5_turnAtWalls_13 ?_
    refine jr_aload_n X.c dX5_turnAtWalls_16 rfl 0 rfl ?_
    refine jr_get X.c (ci := 5) (C := RX5) (T := TX5) (N := 10) (k := 8) rfl cr_in5 (Or.inl (by decide)) ((cr_row_153 w) _) rfl (by decide) fl_X5_31 dX5_turnAtWalls_17 ?_
    refine jr_iadd X.c dX5_turnAtWalls_20 ?_
    refine jr_bipush X.c (v := (30 : Int32)) dX5_turnAtWalls_21 (by decide) ?_
    refine jr_icmp_le X.c 45 dX5_turnAtWalls_23 (by decide) (fun q23 => ?_) (fun q23 => ?_)
    · replace h := cr_if_t q23 h
      refine jr_sub [0, 1] rfl ?_
      exact t_X5_turnAtWalls_b45 X p1 V hp1 hr0 x  h
    · replace h := cr_if_f q23 h
      refine jr_sub [0, 1] rfl ?_
      exact t_X5_turnAtWalls_b26 X p1 V hp1 hr0 x  h
set_option maxRecDepth 100000 in
set_option maxHeartbeats 4000000 in
theorem m_X5_turnAtWalls (l : Launch) (w : cr_Wd) (V : cr_Hp) (p1 : Nat) (hp1 : cr_ma p1) (x : cr_Hp) (h : f_X5_turnAtWalls p1 V = some x) : Met l yX5_turnAtWalls (cr_wds yX5_turnAtWalls cX5_turnAtWalls 2 none) rm_X5_turnAtWalls (cr_Pc w V [.ref (w.1 153), .ref (w.1 p1)]) (cr_Qv w x) 0 0 (cr_A w) := by
  refine cr_met (own := RX5) (lv := [(0, .ref (w.1 153)), (1, .ref (w.1 p1))]) (by decide +kernel) rfl (Nat.le_of_ble_eq_true rfl) rfl (fun p e s m args below meth c X hr0 => ?_)
  exact t_X5_turnAtWalls X p1 V hp1 hr0 x h
abbrev rm_X5_rollToHit : Room := { frames := 2, cells := 0, slots := 0, locals := 49 }
theorem hd_X5_rollToHit : yX5_rollToHit.cls = RX5 ∧ yX5_rollToHit.cls ≠ "java/lang/invoke/MethodHandle" ∧ yX5_rollToHit.cls ≠ "java/lang/invoke/VarHandle" ∧ (parseMethodDescriptor yX5_rollToHit.desc).map (fun d => d.parameters.length) = some 2 := by decide +kernel
def f_X5_rollToHit_l16 (p1 : Nat) (p2 : Nat) (x3_16 : Int32) (x4_16 : Int32) (V_l16 : cr_Hp) : Option ((Int32 × Int32 × cr_Hp) ⊕ ((Nat × cr_Hp) ⊕ cr_Hp)) :=
  if (40 : Int32) ≤ x4_16 then (some (.inr (.inr V_l16))) else (if (V_l16 153 7) < (1 : Int32) then (some (.inr (.inr V_l16))) else (cr_bd (f_X5_turnAtWalls p2 V_l16) (fun (V33 : cr_Hp) => cr_lt (((V33 p2 1) + (V33 153 8))) (fun (n45 : Int32) => cr_lt (((V33 p2 2) + (V33 153 9))) (fun (n56 : Int32) => cr_bd (f_X3_marbleOn p1 n45 n56 V33) (fun (r63 : Option Nat) => cr_on r63 (cr_bd (f_X3_ringsAround p1 n45 n56 V33) (fun (r81 : Int32) => cr_bd (f_J6_bitCount_0f7a4 (x3_16 ^^^ r81)) (fun (r98 : Int32) => cr_lt (if (0 : Int32) < (((V33 153 7) - (1 : Int32)) - r98) then (((V33 153 7) - (1 : Int32)) - r98) else (0 : Int32)) (fun (r102 : Int32) => cr_lt (cr_pt V33 153 7 r102) (fun (V105 : cr_Hp) => cr_lt (cr_pt V105 p2 1 n45) (fun (V114 : cr_Hp) => cr_lt (cr_pt V114 p2 2 n56) (fun (V120 : cr_Hp) => some (.inl (r81, (x4_16 + (1 : Int32)), V120))))))))) (fun (a63 : Nat) => cr_gd (cr_ma a63) (some (.inr (.inl (a63, V33)))))))))))
set_option maxRecDepth 100000 in
set_option maxHeartbeats 4000000 in
theorem t_X5_rollToHit_l16 {p : Program} {l : Launch} {e : Env} {s : State} {m : MethodId} {args : Array Value} {below : List Frame} {meth : Method} {c : Code} {w : cr_Wd} {Q : State → Prop} (X : cr_Cx w RX5 (Cond.code yX5_rollToHit cX5_rollToHit 9 (some (.object "ChalkRings$Marble"))) cX5_rollToHit 9 p s m args meth c) (p1 : Nat) (p2 : Nat) (x3_16 : Int32) (x4_16 : Int32) (V_l16 : cr_Hp) (hp1 : cr_pg p1) (hp2 : cr_ma p2) (x : (Int32 × Int32 × cr_Hp) ⊕ ((Nat × cr_Hp) ⊕ cr_Hp)) (h : f_X5_rollToHit_l16 p1 p2 x3_16 x4_16 V_l16 = some x) (kl : ∀ (x3_16 : Int32) (x4_16 : Int32) (V_l16 : cr_Hp), x = .inl (x3_16, x4_16, V_l16) → cr_J w 9 p l e rm_X5_rollToHit s m args below meth c 0 0 Q V_l16 16 [(0, .ref (w.1 153)), (1, .ref (w.1 p1)), (2, .ref (w.1 p2)), (3, .int x3_16), (4, .int x4_16)] []) (kr73 : ∀ (u7_16_73 : Nat) (V_e16_73 : cr_Hp), x = .inr (.inl (u7_16_73, V_e16_73)) → cr_J w 9 p l e rm_X5_rollToHit s m args below meth c 0 0 Q V_e16_73 73 [(7, .ref (w.1 u7_16_73))] []) (kr129 : ∀ (V_e16_129 : cr_Hp), x = .inr (.inr V_e16_129) → cr_J w 9 p l e rm_X5_rollToHit s m args below meth c 0 0 Q V_e16_129 129 [] []) : cr_J w 9 p l e rm_X5_rollToHit s m args below meth c 0 0 Q V_l16 16 [(0, .ref (w.1 153)), (1, .ref (w.1 p1)), (2, .ref (w.1 p2)), (3, .int x3_16), (4, .int x4_16)] [] := by
  unfold f_X5_rollToHit_l16 at h
  refine jr_iload X.c dX5_rollToHit_16 4 rfl ?_
  refine jr_bipush X.c (v := (40 : Int32)) dX5_rollToHit_18 (by decide) ?_
  refine jr_icmp_ge X.c 129 dX5_rollToHit_20 (by decide) (fun q20 => ?_) (fun q20 => ?_)
  · replace h := cr_if_t q20 h
    cases h
    refine jr_sub [] rfl ?_
    exact kr129 V_l16 rfl
  · replace h := cr_if_f q20 h
    refine jr_aload_n X.c dX5_rollToHit_23 rfl 0 rfl ?_
    refine jr_get X.c (ci := 5) (C := RX5) (T := TX5) (N := 10) (k := 7) rfl cr_in5 (Or.inl (by decide)) ((cr_row_153 w) _) rfl (by decide) fl_X5_24 dX5_rollToHit_24 ?_
    refine jr_iconst X.c (v := (1 : Int32)) dX5_rollToHit_27 (by decide) ?_
    refine jr_icmp_lt X.c 129 dX5_rollToHit_28 (by decide) (fun q28 => ?_) (fun q28 => ?_)
    · replace h := cr_if_t q28 h
      cases h
      refine jr_sub [] rfl ?_
      exact kr129 V_l16 rfl
    · replace h := cr_if_f q28 h
      refine jr_aload_n X.c dX5_rollToHit_31 rfl 0 rfl ?_
      refine jr_aload_n X.c dX5_rollToHit_32 rfl 2 rfl ?_
      obtain ⟨V33, hr33, h⟩ := cr_bd_s h
      refine jc_Vv X.c (As := [.ref (w.1 p2)]) (V1 := V33) (C := RX5) (T := TX5) (N := 10) (ci := 5) 1 (m_X5_turnAtWalls l w V_l16 p2 hp2 V33 hr33) ⟨rfl, rfl⟩ ml_X5_107 im_X5_turnAtWalls sl_X5_turnAtWalls in_X5 cd_X5_turnAtWalls hd_X5_turnAtWalls ⟨Nat.le_of_ble_eq_true rfl, Nat.le_of_ble_eq_true rfl⟩ ⟨Nat.le_of_ble_eq_true rfl, Nat.le_of_ble_eq_true rfl⟩ rfl (Nat.le_of_ble_eq_true rfl) (Or.inl (by decide)) ((cr_row_153 w) _) rfl rfl dX5_rollToHit_33 ?_
      refine jr_aload_n X.c dX5_rollToHit_36 rfl 2 rfl ?_
      refine jr_get X.c (ci := 2) (C := RX2) (T := TX2) (N := 9) (k := 1) rfl cr_in2 (cr_l_ma hp2) ((cr_row_ma w hp2) _) rfl (by decide) fl_X5_92 dX5_rollToHit_37 ?_
      refine jr_aload_n X.c dX5_rollToHit_40 rfl 0 rfl ?_
      refine jr_get X.c (ci := 5) (C := RX5) (T := TX5) (N := 10) (k := 8) rfl cr_in5 (Or.inl (by decide)) ((cr_row_153 w) _) rfl (by decide) fl_X5_31 dX5_rollToHit_41 ?_
      refine jr_iadd X.c dX5_rollToHit_44 ?_
      obtain ⟨n45, en45, h⟩ := cr_lt_s h
      refine jr_top en45 ?_
      refine jr_istore X.c (lv2 := [(5, .int n45), (0, .ref (w.1 153)), (1, .ref (w.1 p1)), (2, .ref (w.1 p2)), (3, .int x3_16), (4, .int x4_16)]) dX5_rollToHit_45 (by decide) rfl ?_
      refine jr_aload_n X.c dX5_rollToHit_47 rfl 3 rfl ?_
      refine jr_get X.c (ci := 2) (C := RX2) (T := TX2) (N := 9) (k := 2) rfl cr_in2 (cr_l_ma hp2) ((cr_row_ma w hp2) _) rfl (by decide) fl_X5_98 dX5_rollToHit_48 ?_
      refine jr_aload_n X.c dX5_rollToHit_51 rfl 1 rfl ?_
      refine jr_get X.c (ci := 5) (C := RX5) (T := TX5) (N := 10) (k := 9) rfl cr_in5 (Or.inl (by decide)) ((cr_row_153 w) _) rfl (by decide) fl_X5_37 dX5_rollToHit_52 ?_
      refine jr_iadd X.c dX5_rollToHit_55 ?_
      obtain ⟨n56, en56, h⟩ := cr_lt_s h
      refine jr_top en56 ?_
      refine jr_istore X.c (lv2 := [(6, .int n56), (5, .int n45), (0, .ref (w.1 153)), (1, .ref (w.1 p1)), (2, .ref (w.1 p2)), (3, .int x3_16), (4, .int x4_16)]) dX5_rollToHit_56 (by decide) rfl ?_
      refine jr_aload_n X.c dX5_rollToHit_58 rfl 3 rfl ?_
      refine jr_iload X.c dX5_rollToHit_59 1 rfl ?_
      refine jr_iload X.c dX5_rollToHit_61 0 rfl ?_
      obtain ⟨r63, hr63, h⟩ := cr_bd_s h
      refine jc_Ve X.c (As := [.int n45, .int n56]) (V1 := V33) (C := RX3) (T := TX3) (N := 10) (ci := 3) 2 (m_X3_marbleOn l w V33 p1 n45 n56 hp1 r63 hr63) ⟨rfl, rfl⟩ ml_X5_111 im_X3_marbleOn sl_X3_marbleOn in_X3 cd_X3_marbleOn hd_X3_marbleOn ⟨Nat.le_of_ble_eq_true rfl, Nat.le_of_ble_eq_true rfl⟩ ⟨Nat.le_of_ble_eq_true rfl, Nat.le_of_ble_eq_true rfl⟩ rfl (Nat.le_of_ble_eq_true rfl) (cr_l_pg hp1) ((cr_row_pg w hp1) _) rfl rfl dX5_rollToHit_63 (fun eq63 => ?_) (fun a63 eq63 => ?_)
      · subst eq63
        replace h := cr_on_n h
        refine jr_astoreN X.c (lv2 := [(7, .null), (6, .int n56), (5, .int n45), (0, .ref (w.1 153)), (1, .ref (w.1 p1)), (2, .ref (w.1 p2)), (3, .int x3_16), (4, .int x4_16)]) dX5_rollToHit_66 (by decide) rfl ?_
        refine jr_aloadN X.c dX5_rollToHit_68 0 rfl ?_
        refine jr_ifnullN X.c 76 dX5_rollToHit_70 (by decide) ?_
        refine jr_aload_n X.c dX5_rollToHit_76 rfl 4 rfl ?_
        refine jr_iload X.c dX5_rollToHit_77 2 rfl ?_
        refine jr_iload X.c dX5_rollToHit_79 1 rfl ?_
        obtain ⟨r81, hr81, h⟩ := cr_bd_s h
        refine jc_Vi X.c (As := [.int n45, .int n56]) (V1 := V33) (C := RX3) (T := TX3) (N := 10) (ci := 3) 2 (m_X3_ringsAround l w V33 p1 n45 n56 hp1 r81 hr81) ⟨rfl, rfl⟩ ml_X5_104 im_X3_ringsAround sl_X3_ringsAround in_X3 cd_X3_ringsAround hd_X3_ringsAround ⟨Nat.le_of_ble_eq_true rfl, Nat.le_of_ble_eq_true rfl⟩ ⟨Nat.le_of_ble_eq_true rfl, Nat.le_of_ble_eq_true rfl⟩ rfl (Nat.le_of_ble_eq_true rfl) (cr_l_pg hp1) ((cr_row_pg w hp1) _) rfl rfl dX5_rollToHit_81 ?_
        refine jr_istore X.c (lv2 := [(8, .int r81), (7, .null), (6, .int n56), (5, .int n45), (0, .ref (w.1 153)), (1, .ref (w.1 p1)), (2, .ref (w.1 p2)), (3, .int x3_16), (4, .int x4_16)]) dX5_rollToHit_84 (by decide) rfl ?_
        refine jr_aload_n X.c dX5_rollToHit_86 rfl 4 rfl ?_
        refine jr_iconst X.c (v := (0 : Int32)) dX5_rollToHit_87 (by decide) ?_
        refine jr_aload_n X.c dX5_rollToHit_88 rfl 4 rfl ?_
        refine jr_get X.c (ci := 5) (C := RX5) (T := TX5) (N := 10) (k := 7) rfl cr_in5 (Or.inl (by decide)) ((cr_row_153 w) _) rfl (by decide) fl_X5_24 dX5_rollToHit_89 ?_
        refine jr_iconst X.c (v := (1 : Int32)) dX5_rollToHit_92 (by decide) ?_
        refine jr_isub X.c dX5_rollToHit_93 ?_
        refine jr_iload_n X.c dX5_rollToHit_94 rfl 7 rfl ?_
        refine jr_iload X.c dX5_rollToHit_95 0 rfl ?_
        refine jr_ixor X.c dX5_rollToHit_97 ?_
        obtain ⟨r98, hr98, h⟩ := cr_bd_s h
        refine jc_Si X.c (As := [.int (x3_16 ^^^ r81)]) (V1 := V33) 1 (m_J6_bitCount_0f7a4 l w V33 (x3_16 ^^^ r81)  r98 hr98) ⟨rfl, rfl⟩ ml_X5_115 st_J6_bitCount_0f7a4 in_J6 cd_J6_bitCount_0f7a4 hd_J6_bitCount_0f7a4 ⟨Nat.le_of_ble_eq_true rfl, Nat.le_of_ble_eq_true rfl⟩ ⟨Nat.le_of_ble_eq_true rfl, Nat.le_of_ble_eq_true rfl⟩ rfl (Nat.le_of_ble_eq_true rfl) rfl dX5_rollToHit_98 ?_
        refine jr_isub X.c dX5_rollToHit_101 ?_
        obtain ⟨r102, er102, h⟩ := cr_lt_s h
        refine jr_mmax X.c ⟨Nat.le_of_ble_eq_true rfl, Nat.le_of_ble_eq_true rfl⟩ ⟨Nat.le_of_ble_eq_true rfl, Nat.le_of_ble_eq_true rfl⟩ ml_X5_120 st_JMmax in_JMath cd_JMmax dX5_rollToHit_102 ?_
        refine jr_top er102 ?_
        obtain ⟨V105, eV105, h⟩ := cr_lt_s h
        refine jr_put X.c (ci := 5) (C := RX5) (T := TX5) (N := 10) (k := 7) rfl cr_in5 tyX5 tyX5_ok nmX5 (Or.inl (by decide)) (cr_row_153 w) rfl (Nat.le_of_ble_eq_true rfl) (by decide) rfl rfl rfl fl_X5_24 dX5_rollToHit_105 eV105 ?_
        refine jr_iload X.c dX5_rollToHit_108 0 rfl ?_
        refine jr_istore_n X.c (lv2 := [(3, .int r81), (8, .int r81), (7, .null), (6, .int n56), (5, .int n45), (0, .ref (w.1 153)), (1, .ref (w.1 p1)), (2, .ref (w.1 p2)), (4, .int x4_16)]) dX5_rollToHit_110 rfl (by decide) rfl ?_
        refine jr_aload_n X.c dX5_rollToHit_111 rfl 7 rfl ?_
        refine jr_iload X.c dX5_rollToHit_112 4 rfl ?_
        obtain ⟨V114, eV114, h⟩ := cr_lt_s h
        refine jr_put X.c (ci := 2) (C := RX2) (T := TX2) (N := 9) (k := 1) rfl cr_in2 tyX2 tyX2_ok nmX2 (cr_l_ma hp2) (cr_row_ma w hp2) rfl (Nat.le_of_ble_eq_true rfl) (by decide) rfl rfl rfl fl_X5_92 dX5_rollToHit_114 eV114 ?_
        refine jr_aload_n X.c dX5_rollToHit_117 rfl 7 rfl ?_
        refine jr_iload X.c dX5_rollToHit_118 3 rfl ?_
        obtain ⟨V120, eV120, h⟩ := cr_lt_s h
        refine jr_put X.c (ci := 2) (C := RX2) (T := TX2) (N := 9) (k := 2) rfl cr_in2 tyX2 tyX2_ok nmX2 (cr_l_ma hp2) (cr_row_ma w hp2) rfl (Nat.le_of_ble_eq_true rfl) (by decide) rfl rfl rfl fl_X5_98 dX5_rollToHit_120 eV120 ?_
        refine jr_iinc X.c (v := (x4_16 + (1 : Int32))) (lv2 := [(4, .int (x4_16 + (1 : Int32))), (3, .int r81), (8, .int r81), (7, .null), (6, .int n56), (5, .int n45), (0, .ref (w.1 153)), (1, .ref (w.1 p1)), (2, .ref (w.1 p2))]) dX5_rollToHit_123 8 rfl (by rfl) (by decide) rfl ?_
        refine jr_goto X.c 16 dX5_rollToHit_126 (by decide) ?_
        cases h
        refine jr_sub [6, 7, 8, 1, 0] rfl ?_
        exact kl r81 (x4_16 + (1 : Int32)) V120 rfl
      · subst eq63
        replace h := cr_on_s h
        obtain ⟨ha63, h⟩ := cr_gd_s h
        refine jr_astore X.c (lv2 := [(7, .ref (w.1 a63)), (6, .int n56), (5, .int n45), (0, .ref (w.1 153)), (1, .ref (w.1 p1)), (2, .ref (w.1 p2)), (3, .int x3_16), (4, .int x4_16)]) dX5_rollToHit_66 (by decide) rfl ?_
        refine jr_aload X.c dX5_rollToHit_68 0 rfl ?_
        refine jr_ifnullR X.c dX5_rollToHit_70 ?_
        cases h
        refine jr_sub [0] rfl ?_
        exact kr73 a63 V33 rfl
def f_X5_rollToHit (p1 : Nat) (p2 : Nat) (V : cr_Hp) : Option ((Option Nat) × cr_Hp) :=
  cr_bd (f_X3_ringsAround p1 (V p2 1) (V p2 2) V) (fun (r9 : Int32) => cr_bd (cr_it (fun (q : Int32 × Int32 × cr_Hp) => f_X5_rollToHit_l16 p1 p2 q.1 q.2.1 q.2.2) cr_FU (r9, (0 : Int32), V)) (cr_sm (cr_u2 (fun (u7_16_73 : Nat) (V_e16_73 : cr_Hp) => cr_gd (cr_ma u7_16_73) (some ((some u7_16_73), V_e16_73)))) (fun (V_e16_129 : cr_Hp) => some (none, V_e16_129))))
set_option maxRecDepth 100000 in
set_option maxHeartbeats 4000000 in
theorem t_X5_rollToHit {p : Program} {l : Launch} {e : Env} {s : State} {m : MethodId} {args : Array Value} {below : List Frame} {meth : Method} {c : Code} {w : cr_Wd} (X : cr_Cx w RX5 (Cond.code yX5_rollToHit cX5_rollToHit 9 (some (.object "ChalkRings$Marble"))) cX5_rollToHit 9 p s m args meth c) (p1 : Nat) (p2 : Nat) (V : cr_Hp) (hp1 : cr_pg p1) (hp2 : cr_ma p2) (hr0 : meth.sig.returnType = (some (.object "ChalkRings$Marble"))) (x : (Option Nat) × cr_Hp) (h : f_X5_rollToHit p1 p2 V = some x) : cr_J w 9 p l e rm_X5_rollToHit s m args below meth c 0 0 (MQ below (cr_Qe w x.2 x.1) args s 0 0 (cr_A w)) V 0 [(0, .ref (w.1 153)), (1, .ref (w.1 p1)), (2, .ref (w.1 p2))] [] := by
  unfold f_X5_rollToHit at h
  refine jr_aload_n X.c dX5_rollToHit_0 rfl 1 rfl ?_
  refine jr_aload_n X.c dX5_rollToHit_1 rfl 2 rfl ?_
  refine jr_get X.c (ci := 2) (C := RX2) (T := TX2) (N := 9) (k := 1) rfl cr_in2 (cr_l_ma hp2) ((cr_row_ma w hp2) _) rfl (by decide) fl_X5_92 dX5_rollToHit_2 ?_
  refine jr_aload_n X.c dX5_rollToHit_5 rfl 2 rfl ?_
  refine jr_get X.c (ci := 2) (C := RX2) (T := TX2) (N := 9) (k := 2) rfl cr_in2 (cr_l_ma hp2) ((cr_row_ma w hp2) _) rfl (by decide) fl_X5_98 dX5_rollToHit_6 ?_
  obtain ⟨r9, hr9, h⟩ := cr_bd_s h
  refine jc_Vi X.c (As := [.int (V p2 1), .int (V p2 2)]) (V1 := V) (C := RX3) (T := TX3) (N := 10) (ci := 3) 2 (m_X3_ringsAround l w V p1 (V p2 1) (V p2 2) hp1 r9 hr9) ⟨rfl, rfl⟩ ml_X5_104 im_X3_ringsAround sl_X3_ringsAround in_X3 cd_X3_ringsAround hd_X3_ringsAround ⟨Nat.le_of_ble_eq_true rfl, Nat.le_of_ble_eq_true rfl⟩ ⟨Nat.le_of_ble_eq_true rfl, Nat.le_of_ble_eq_true rfl⟩ rfl (Nat.le_of_ble_eq_true rfl) (cr_l_pg hp1) ((cr_row_pg w hp1) _) rfl rfl dX5_rollToHit_9 ?_
  refine jr_istore_n X.c (lv2 := [(3, .int r9), (0, .ref (w.1 153)), (1, .ref (w.1 p1)), (2, .ref (w.1 p2))]) dX5_rollToHit_12 rfl (by decide) rfl ?_
  refine jr_iconst X.c (v := (0 : Int32)) dX5_rollToHit_13 (by decide) ?_
  refine jr_istore X.c (lv2 := [(4, .int (0 : Int32)), (3, .int r9), (0, .ref (w.1 153)), (1, .ref (w.1 p1)), (2, .ref (w.1 p2))]) dX5_rollToHit_14 (by decide) rfl ?_
  obtain ⟨e16, he16, h⟩ := cr_bd_s h
  have kx73 : ∀ (u7_16_73 : Nat) (V_e16_73 : cr_Hp), e16 = (.inl (u7_16_73, V_e16_73)) → cr_J w 9 p l e rm_X5_rollToHit s m args below meth c 0 0 (MQ below (cr_Qe w x.2 x.1) args s 0 0 (cr_A w)) V_e16_73 73 [(7, .ref (w.1 u7_16_73))] [] := by
    intro u7_16_73 V_e16_73 qx
    rw [qx] at h
    rw [cr_sl_e, cr_u2_e] at h
    obtain ⟨hu7_16_73, h⟩ := cr_gd_s h
    refine jr_aload X.c dX5_rollToHit_73 0 rfl ?_
    cases h
    exact jr_aret X.c (r := (some u7_16_73)) hr0 dX5_rollToHit_75 rfl
  have kx129 : ∀ (V_e16_129 : cr_Hp), e16 = (.inr V_e16_129) → cr_J w 9 p l e rm_X5_rollToHit s m args below meth c 0 0 (MQ below (cr_Qe w x.2 x.1) args s 0 0 (cr_A w)) V_e16_129 129 [] [] := by
    intro V_e16_129 qx
    rw [qx] at h
    rw [cr_sr_e] at h
    refine jr_null X.c dX5_rollToHit_129 ?_
    cases h
    exact jr_aret X.c (r := none) hr0 dX5_rollToHit_130 rfl
  refine jr_sub [2, 3, 4, 1, 0] rfl ?_
  refine cr_it_W (f := (fun (q : Int32 × Int32 × cr_Hp) => f_X5_rollToHit_l16 p1 p2 q.1 q.2.1 q.2.2)) (P := fun (q : Int32 × Int32 × cr_Hp) => cr_J w 9 p l e rm_X5_rollToHit s m args below meth c 0 0 (MQ below (cr_Qe w x.2 x.1) args s 0 0 (cr_A w)) q.2.2 16 [(0, .ref (w.1 153)), (1, .ref (w.1 p1)), (2, .ref (w.1 p2)), (3, .int q.1), (4, .int q.2.1)] []) (K := fun z => z = e16) (fun q x hx kl kr => ?_) cr_FU (r9, (0 : Int32), V) e16 he16 rfl
  obtain ⟨x3_16, x4_16, V_l16⟩ := q
  exact t_X5_rollToHit_l16 X p1 p2 x3_16 x4_16 V_l16 hp1 hp2 x hx (fun x3_16 x4_16 V_l16 ez => kl _ ez) (fun u7_16_73 V_e16_73 ez => kx73 u7_16_73 V_e16_73 ((kr _ ez).symm)) (fun V_e16_129 ez => kx129 V_e16_129 ((kr _ ez).symm))
set_option maxRecDepth 100000 in
set_option maxHeartbeats 4000000 in
theorem m_X5_rollToHit (l : Launch) (w : cr_Wd) (V : cr_Hp) (p1 : Nat) (p2 : Nat) (hp1 : cr_pg p1) (hp2 : cr_ma p2) (x : (Option Nat) × cr_Hp) (h : f_X5_rollToHit p1 p2 V = some x) : Met l yX5_rollToHit (cr_wds yX5_rollToHit cX5_rollToHit 9 (some (.object "ChalkRings$Marble"))) rm_X5_rollToHit (cr_Pc w V [.ref (w.1 153), .ref (w.1 p1), .ref (w.1 p2)]) (cr_Qe w x.2 x.1) 0 0 (cr_A w) := by
  refine cr_met (own := RX5) (lv := [(0, .ref (w.1 153)), (1, .ref (w.1 p1)), (2, .ref (w.1 p2))]) (by decide +kernel) rfl (Nat.le_of_ble_eq_true rfl) rfl (fun p e s m args below meth c X hr0 => ?_)
  exact t_X5_rollToHit X p1 p2 V hp1 hp2 hr0 x h
abbrev rm_X5_passedOn : Room := { frames := 1, cells := 0, slots := 0, locals := 21 }
theorem hd_X5_passedOn : yX5_passedOn.cls = RX5 ∧ yX5_passedOn.cls ≠ "java/lang/invoke/MethodHandle" ∧ yX5_passedOn.cls ≠ "java/lang/invoke/VarHandle" ∧ (parseMethodDescriptor yX5_passedOn.desc).map (fun d => d.parameters.length) = some 2 := by decide +kernel
def f_X5_passedOn (x1 : Int32) (x2 : Int32) (V : cr_Hp) : Option (Int32) :=
  if (1 : Int32) ≤ x2 then (cr_gd (¬ x2 = 0) (cr_lt (if (((V 153 7) * x1) / x2) < (40 : Int32) then (((V 153 7) * x1) / x2) else (40 : Int32)) (fun (r19 : Int32) => some r19))) else (some (0 : Int32))
set_option maxRecDepth 100000 in
set_option maxHeartbeats 4000000 in
theorem t_X5_passedOn {p : Program} {l : Launch} {e : Env} {s : State} {m : MethodId} {args : Array Value} {below : List Frame} {meth : Method} {c : Code} {w : cr_Wd} (X : cr_Cx w RX5 (Cond.code yX5_passedOn cX5_passedOn 3 (some .int)) cX5_passedOn 3 p s m args meth c) (x1 : Int32) (x2 : Int32) (V : cr_Hp)  (hr0 : meth.sig.returnType = (some .int)) (x : Int32) (h : f_X5_passedOn x1 x2 V = some x) : cr_J w 3 p l e rm_X5_passedOn s m args below meth c 0 0 (MQ below (cr_Qi w V x) args s 0 0 (cr_A w)) V 0 [(0, .ref (w.1 153)), (1, .int x1), (2, .int x2)] [] := by
  unfold f_X5_passedOn at h
  refine jr_iload_n X.c dX5_passedOn_0 rfl 2 rfl ?_
  refine jr_iconst X.c (v := (1 : Int32)) dX5_passedOn_1 (by decide) ?_
  refine jr_icmp_ge X.c 9 dX5_passedOn_2 (by decide) (fun q2 => ?_) (fun q2 => ?_)
  · replace h := cr_if_t q2 h
    refine jr_bipush X.c (v := (40 : Int32)) dX5_passedOn_9 (by decide) ?_
    refine jr_aload_n X.c dX5_passedOn_11 rfl 0 rfl ?_
    refine jr_get X.c (ci := 5) (C := RX5) (T := TX5) (N := 10) (k := 7) rfl cr_in5 (Or.inl (by decide)) ((cr_row_153 w) _) rfl (by decide) fl_X5_24 dX5_passedOn_12 ?_
    refine jr_iload_n X.c dX5_passedOn_15 rfl 1 rfl ?_
    refine jr_imul X.c dX5_passedOn_16 ?_
    refine jr_iload_n X.c dX5_passedOn_17 rfl 2 rfl ?_
    obtain ⟨hk18, h⟩ := cr_gd_s h
    refine jr_idiv X.c dX5_passedOn_18 hk18 ?_
    obtain ⟨r19, er19, h⟩ := cr_lt_s h
    refine jr_mmin X.c ⟨Nat.le_of_ble_eq_true rfl, Nat.le_of_ble_eq_true rfl⟩ ⟨Nat.le_of_ble_eq_true rfl, Nat.le_of_ble_eq_true rfl⟩ ml_X5_125 st_JMmin in_JMath cd_JMmin dX5_passedOn_19 ?_
    refine jr_top er19 ?_
    cases h
    exact jr_iret X.c hr0 dX5_passedOn_22
  · replace h := cr_if_f q2 h
    refine jr_iconst X.c (v := (0 : Int32)) dX5_passedOn_5 (by decide) ?_
    refine jr_goto X.c 22 dX5_passedOn_6 (by decide) ?_
    cases h
    exact jr_iret X.c hr0 dX5_passedOn_22
set_option maxRecDepth 100000 in
set_option maxHeartbeats 4000000 in
theorem m_X5_passedOn (l : Launch) (w : cr_Wd) (V : cr_Hp) (x1 : Int32) (x2 : Int32)  (x : Int32) (h : f_X5_passedOn x1 x2 V = some x) : Met l yX5_passedOn (cr_wds yX5_passedOn cX5_passedOn 3 (some .int)) rm_X5_passedOn (cr_Pc w V [.ref (w.1 153), .int x1, .int x2]) (cr_Qi w V x) 0 0 (cr_A w) := by
  refine cr_met (own := RX5) (lv := [(0, .ref (w.1 153)), (1, .int x1), (2, .int x2)]) (by decide +kernel) rfl (Nat.le_of_ble_eq_true rfl) rfl (fun p e s m args below meth c X hr0 => ?_)
  exact t_X5_passedOn X x1 x2 V  hr0 x h
abbrev rm_X5_rollAll : Room := { frames := 3, cells := 0, slots := 0, locals := 77 }
theorem hd_X5_rollAll : yX5_rollAll.cls = RX5 ∧ yX5_rollAll.cls ≠ "java/lang/invoke/MethodHandle" ∧ yX5_rollAll.cls ≠ "java/lang/invoke/VarHandle" ∧ (parseMethodDescriptor yX5_rollAll.desc).map (fun d => d.parameters.length) = some 2 := by decide +kernel
def f_X5_rollAll_l5 (p1 : Nat) (x3_5 : Nat) (x4_5 : Int32) (V_l5 : cr_Hp) : Option ((Nat × Int32 × cr_Hp) ⊕ ((Nat × cr_Hp) ⊕ (Nat × cr_Hp))) :=
  cr_gd (cr_ma x3_5) (if (60 : Int32) ≤ x4_5 then (some (.inr (.inr (x3_5, V_l5)))) else (cr_b2 (f_X5_rollToHit p1 x3_5 V_l5) (fun (r15 : Option Nat) (V15 : cr_Hp) => cr_on r15 (some (.inr (.inl (x3_5, V15)))) (fun (a15 : Nat) => cr_gd (cr_ma a15) (cr_lt (cr_pt V15 153 2 ((V15 153 2) + (1 : Int32))) (fun (V35 : cr_Hp) => cr_lt (cr_pt V35 a15 8 (1 : Int32)) (fun (V41 : cr_Hp) => cr_bd (f_X5_passedOn (V41 x3_5 3) (V41 a15 3) V41) (fun (r55 : Int32) => cr_lt (cr_pt V41 153 7 r55) (fun (V58 : cr_Hp) => some (.inl (a15, (x4_5 + (1 : Int32)), V58)))))))))))
set_option maxRecDepth 100000 in
set_option maxHeartbeats 4000000 in
theorem t_X5_rollAll_l5 {p : Program} {l : Launch} {e : Env} {s : State} {m : MethodId} {args : Array Value} {below : List Frame} {meth : Method} {c : Code} {w : cr_Wd} {Q : State → Prop} (X : cr_Cx w RX5 (Cond.code yX5_rollAll cX5_rollAll 6 none) cX5_rollAll 6 p s m args meth c) (p1 : Nat) (x3_5 : Nat) (x4_5 : Int32) (V_l5 : cr_Hp) (hp1 : cr_pg p1) (x : (Nat × Int32 × cr_Hp) ⊕ ((Nat × cr_Hp) ⊕ (Nat × cr_Hp))) (h : f_X5_rollAll_l5 p1 x3_5 x4_5 V_l5 = some x) (kl : ∀ (x3_5 : Nat) (x4_5 : Int32) (V_l5 : cr_Hp), x = .inl (x3_5, x4_5, V_l5) → cr_J w 6 p l e rm_X5_rollAll s m args below meth c 0 0 Q V_l5 5 [(0, .ref (w.1 153)), (1, .ref (w.1 p1)), (3, .ref (w.1 x3_5)), (4, .int x4_5)] []) (kr25 : ∀ (u3_5_25 : Nat) (V_e5_25 : cr_Hp), x = .inr (.inl (u3_5_25, V_e5_25)) → cr_J w 6 p l e rm_X5_rollAll s m args below meth c 0 0 Q V_e5_25 25 [(0, .ref (w.1 153)), (3, .ref (w.1 u3_5_25))] []) (kr70 : ∀ (u3_5_70 : Nat) (V_e5_70 : cr_Hp), x = .inr (.inr (u3_5_70, V_e5_70)) → cr_J w 6 p l e rm_X5_rollAll s m args below meth c 0 0 Q V_e5_70 70 [(0, .ref (w.1 153)), (3, .ref (w.1 u3_5_70))] []) : cr_J w 6 p l e rm_X5_rollAll s m args below meth c 0 0 Q V_l5 5 [(0, .ref (w.1 153)), (1, .ref (w.1 p1)), (3, .ref (w.1 x3_5)), (4, .int x4_5)] [] := by
  unfold f_X5_rollAll_l5 at h
  obtain ⟨hx3_5, h⟩ := cr_gd_s h
  refine jr_iload X.c dX5_rollAll_5 3 rfl ?_
  refine jr_bipush X.c (v := (60 : Int32)) dX5_rollAll_7 (by decide) ?_
  refine jr_icmp_ge X.c 70 dX5_rollAll_9 (by decide) (fun q9 => ?_) (fun q9 => ?_)
  · replace h := cr_if_t q9 h
    cases h
    refine jr_sub [0, 2] rfl ?_
    exact kr70 x3_5 V_l5 rfl
  · replace h := cr_if_f q9 h
    refine jr_aload_n X.c dX5_rollAll_12 rfl 0 rfl ?_
    refine jr_aload_n X.c dX5_rollAll_13 rfl 1 rfl ?_
    refine jr_aload_n X.c dX5_rollAll_14 rfl 2 rfl ?_
    obtain ⟨r15, V15, hr15, h⟩ := cr_b2_s h
    refine jc_Ve X.c (As := [.ref (w.1 p1), .ref (w.1 x3_5)]) (V1 := V15) (C := RX5) (T := TX5) (N := 10) (ci := 5) 2 (m_X5_rollToHit l w V_l5 p1 x3_5 hp1 hx3_5 (r15, V15) hr15) ⟨rfl, rfl⟩ ml_X5_71 im_X5_rollToHit sl_X5_rollToHit in_X5 cd_X5_rollToHit hd_X5_rollToHit ⟨Nat.le_of_ble_eq_true rfl, Nat.le_of_ble_eq_true rfl⟩ ⟨Nat.le_of_ble_eq_true rfl, Nat.le_of_ble_eq_true rfl⟩ rfl (Nat.le_of_ble_eq_true rfl) (Or.inl (by decide)) ((cr_row_153 w) _) rfl rfl dX5_rollAll_15 (fun eq15 => ?_) (fun a15 eq15 => ?_)
    · subst eq15
      replace h := cr_on_n h
      refine jr_astoreN X.c (lv2 := [(5, .null), (0, .ref (w.1 153)), (1, .ref (w.1 p1)), (3, .ref (w.1 x3_5)), (4, .int x4_5)]) dX5_rollAll_18 (by decide) rfl ?_
      refine jr_aloadN X.c dX5_rollAll_20 0 rfl ?_
      refine jr_ifnonnullN X.c dX5_rollAll_22 ?_
      cases h
      refine jr_sub [1, 3] rfl ?_
      exact kr25 x3_5 V15 rfl
    · subst eq15
      replace h := cr_on_s h
      obtain ⟨ha15, h⟩ := cr_gd_s h
      refine jr_astore X.c (lv2 := [(5, .ref (w.1 a15)), (0, .ref (w.1 153)), (1, .ref (w.1 p1)), (3, .ref (w.1 x3_5)), (4, .int x4_5)]) dX5_rollAll_18 (by decide) rfl ?_
      refine jr_aload X.c dX5_rollAll_20 0 rfl ?_
      refine jr_ifnonnullR X.c 28 dX5_rollAll_22 (by decide) ?_
      refine jr_aload_n X.c dX5_rollAll_28 rfl 1 rfl ?_
      refine jr_dup X.c dX5_rollAll_29 rfl ?_
      refine jr_get X.c (ci := 5) (C := RX5) (T := TX5) (N := 10) (k := 2) rfl cr_in5 (Or.inl (by decide)) ((cr_row_153 w) _) rfl (by decide) fl_X5_18 dX5_rollAll_30 ?_
      refine jr_iconst X.c (v := (1 : Int32)) dX5_rollAll_33 (by decide) ?_
      refine jr_iadd X.c dX5_rollAll_34 ?_
      obtain ⟨V35, eV35, h⟩ := cr_lt_s h
      refine jr_put X.c (ci := 5) (C := RX5) (T := TX5) (N := 10) (k := 2) rfl cr_in5 tyX5 tyX5_ok nmX5 (Or.inl (by decide)) (cr_row_153 w) rfl (Nat.le_of_ble_eq_true rfl) (by decide) rfl rfl rfl fl_X5_18 dX5_rollAll_35 eV35 ?_
      refine jr_aload X.c dX5_rollAll_38 0 rfl ?_
      refine jr_iconst X.c (v := (1 : Int32)) dX5_rollAll_40 (by decide) ?_
      obtain ⟨V41, eV41, h⟩ := cr_lt_s h
      refine jr_put X.c (ci := 2) (C := RX2) (T := TX2) (N := 9) (k := 8) rfl cr_in2 tyX2 tyX2_ok nmX2 (cr_l_ma ha15) (cr_row_ma w ha15) rfl (Nat.le_of_ble_eq_true rfl) (by decide) rfl (by decide) (by decide) fl_X5_75 dX5_rollAll_41 eV41 ?_
      refine jr_aload_n X.c dX5_rollAll_44 rfl 1 rfl ?_
      refine jr_aload_n X.c dX5_rollAll_45 rfl 1 rfl ?_
      refine jr_aload_n X.c dX5_rollAll_46 rfl 3 rfl ?_
      refine jr_get X.c (ci := 2) (C := RX2) (T := TX2) (N := 9) (k := 3) rfl cr_in2 (cr_l_ma hx3_5) ((cr_row_ma w hx3_5) _) rfl (by decide) fl_X5_79 dX5_rollAll_47 ?_
      refine jr_aload X.c dX5_rollAll_50 0 rfl ?_
      refine jr_get X.c (ci := 2) (C := RX2) (T := TX2) (N := 9) (k := 3) rfl cr_in2 (cr_l_ma ha15) ((cr_row_ma w ha15) _) rfl (by decide) fl_X5_79 dX5_rollAll_52 ?_
      obtain ⟨r55, hr55, h⟩ := cr_bd_s h
      refine jc_Vi X.c (As := [.int (V41 x3_5 3), .int (V41 a15 3)]) (V1 := V41) (C := RX5) (T := TX5) (N := 10) (ci := 5) 2 (m_X5_passedOn l w V41 (V41 x3_5 3) (V41 a15 3)  r55 hr55) ⟨rfl, rfl⟩ ml_X5_82 im_X5_passedOn sl_X5_passedOn in_X5 cd_X5_passedOn hd_X5_passedOn ⟨Nat.le_of_ble_eq_true rfl, Nat.le_of_ble_eq_true rfl⟩ ⟨Nat.le_of_ble_eq_true rfl, Nat.le_of_ble_eq_true rfl⟩ rfl (Nat.le_of_ble_eq_true rfl) (Or.inl (by decide)) ((cr_row_153 w) _) rfl rfl dX5_rollAll_55 ?_
      obtain ⟨V58, eV58, h⟩ := cr_lt_s h
      refine jr_put X.c (ci := 5) (C := RX5) (T := TX5) (N := 10) (k := 7) rfl cr_in5 tyX5 tyX5_ok nmX5 (Or.inl (by decide)) (cr_row_153 w) rfl (Nat.le_of_ble_eq_true rfl) (by decide) rfl rfl rfl fl_X5_24 dX5_rollAll_58 eV58 ?_
      refine jr_aload X.c dX5_rollAll_61 0 rfl ?_
      refine jr_astore_n X.c (lv2 := [(3, .ref (w.1 a15)), (5, .ref (w.1 a15)), (0, .ref (w.1 153)), (1, .ref (w.1 p1)), (4, .int x4_5)]) dX5_rollAll_63 rfl (by decide) rfl ?_
      refine jr_iinc X.c (v := (x4_5 + (1 : Int32))) (lv2 := [(4, .int (x4_5 + (1 : Int32))), (3, .ref (w.1 a15)), (5, .ref (w.1 a15)), (0, .ref (w.1 153)), (1, .ref (w.1 p1))]) dX5_rollAll_64 4 rfl (by rfl) (by decide) rfl ?_
      refine jr_goto X.c 5 dX5_rollAll_67 (by decide) ?_
      cases h
      refine jr_sub [3, 4, 1, 0] rfl ?_
      exact kl a15 (x4_5 + (1 : Int32)) V58 rfl
def f_X5_rollAll_b70 (y3_70 : Nat) (V_70 : cr_Hp) : Option (cr_Hp) :=
  cr_lt (cr_pt V_70 153 3 (V_70 y3_70 0)) (fun (V75 : cr_Hp) => cr_lt (cr_pt V75 153 4 (V75 y3_70 1)) (fun (V83 : cr_Hp) => cr_lt (cr_pt V83 153 5 (V83 y3_70 2)) (fun (V91 : cr_Hp) => some V91)))
set_option maxRecDepth 100000 in
set_option maxHeartbeats 4000000 in
theorem t_X5_rollAll_b70 {p : Program} {l : Launch} {e : Env} {s : State} {m : MethodId} {args : Array Value} {below : List Frame} {meth : Method} {c : Code} {w : cr_Wd} (X : cr_Cx w RX5 (Cond.code yX5_rollAll cX5_rollAll 6 none) cX5_rollAll 6 p s m args meth c) (y3_70 : Nat) (V_70 : cr_Hp) (hy3_70 : cr_ma y3_70) (hr0 : meth.sig.returnType = none) (x : cr_Hp) (h : f_X5_rollAll_b70 y3_70 V_70 = some x) : cr_J w 6 p l e rm_X5_rollAll s m args below meth c 0 0 (MQ below (cr_Qv w x) args s 0 0 (cr_A w)) V_70 70 [(0, .ref (w.1 153)), (3, .ref (w.1 y3_70))] [] := by
  unfold f_X5_rollAll_b70 at h
  refine jr_aload_n X.c dX5_rollAll_70 rfl 0 rfl ?_
  refine jr_aload_n X.c dX5_rollAll_71 rfl 1 rfl ?_
  refine jr_get X.c (ci := 2) (C := RX2) (T := TX2) (N := 9) (k := 0) rfl cr_in2 (cr_l_ma hy3_70) ((cr_row_ma w hy3_70) _) rfl (by decide) fl_X5_86 dX5_rollAll_72 ?_
  obtain ⟨V75, eV75, h⟩ := cr_lt_s h
  refine jr_put X.c (ci := 5) (C := RX5) (T := TX5) (N := 10) (k := 3) rfl cr_in5 tyX5 tyX5_ok nmX5 (Or.inl (by decide)) (cr_row_153 w) rfl (Nat.le_of_ble_eq_true rfl) (by decide) rfl rfl rfl fl_X5_89 dX5_rollAll_75 eV75 ?_
  refine jr_aload_n X.c dX5_rollAll_78 rfl 0 rfl ?_
  refine jr_aload_n X.c dX5_rollAll_79 rfl 1 rfl ?_
  refine jr_get X.c (ci := 2) (C := RX2) (T := TX2) (N := 9) (k := 1) rfl cr_in2 (cr_l_ma hy3_70) ((cr_row_ma w hy3_70) _) rfl (by decide) fl_X5_92 dX5_rollAll_80 ?_
  obtain ⟨V83, eV83, h⟩ := cr_lt_s h
  refine jr_put X.c (ci := 5) (C := RX5) (T := TX5) (N := 10) (k := 4) rfl cr_in5 tyX5 tyX5_ok nmX5 (Or.inl (by decide)) (cr_row_153 w) rfl (Nat.le_of_ble_eq_true rfl) (by decide) rfl rfl rfl fl_X5_95 dX5_rollAll_83 eV83 ?_
  refine jr_aload_n X.c dX5_rollAll_86 rfl 0 rfl ?_
  refine jr_aload_n X.c dX5_rollAll_87 rfl 1 rfl ?_
  refine jr_get X.c (ci := 2) (C := RX2) (T := TX2) (N := 9) (k := 2) rfl cr_in2 (cr_l_ma hy3_70) ((cr_row_ma w hy3_70) _) rfl (by decide) fl_X5_98 dX5_rollAll_88 ?_
  obtain ⟨V91, eV91, h⟩ := cr_lt_s h
  refine jr_put X.c (ci := 5) (C := RX5) (T := TX5) (N := 10) (k := 5) rfl cr_in5 tyX5 tyX5_ok nmX5 (Or.inl (by decide)) (cr_row_153 w) rfl (Nat.le_of_ble_eq_true rfl) (by decide) rfl rfl rfl fl_X5_101 dX5_rollAll_91 eV91 ?_
  cases h
  exact jr_vret X.c hr0 dX5_rollAll_94
def f_X5_rollAll (p1 : Nat) (p2 : Nat) (V : cr_Hp) : Option (cr_Hp) :=
  cr_bd (cr_it (fun (q : Nat × Int32 × cr_Hp) => f_X5_rollAll_l5 p1 q.1 q.2.1 q.2.2) cr_FU (p2, (0 : Int32), V)) (cr_sm (cr_u2 (fun (u3_5_25 : Nat) (V_e5_25 : cr_Hp) => cr_gd (cr_ma u3_5_25) (f_X5_rollAll_b70 u3_5_25 V_e5_25))) (cr_u2 (fun (u3_5_70 : Nat) (V_e5_70 : cr_Hp) => cr_gd (cr_ma u3_5_70) (f_X5_rollAll_b70 u3_5_70 V_e5_70))))
set_option maxRecDepth 100000 in
set_option maxHeartbeats 4000000 in
theorem t_X5_rollAll {p : Program} {l : Launch} {e : Env} {s : State} {m : MethodId} {args : Array Value} {below : List Frame} {meth : Method} {c : Code} {w : cr_Wd} (X : cr_Cx w RX5 (Cond.code yX5_rollAll cX5_rollAll 6 none) cX5_rollAll 6 p s m args meth c) (p1 : Nat) (p2 : Nat) (V : cr_Hp) (hp1 : cr_pg p1) (hp2 : cr_ma p2) (hr0 : meth.sig.returnType = none) (x : cr_Hp) (h : f_X5_rollAll p1 p2 V = some x) : cr_J w 6 p l e rm_X5_rollAll s m args below meth c 0 0 (MQ below (cr_Qv w x) args s 0 0 (cr_A w)) V 0 [(0, .ref (w.1 153)), (1, .ref (w.1 p1)), (2, .ref (w.1 p2))] [] := by
  unfold f_X5_rollAll at h
  refine jr_aload_n X.c dX5_rollAll_0 rfl 2 rfl ?_
  refine jr_astore_n X.c (lv2 := [(3, .ref (w.1 p2)), (0, .ref (w.1 153)), (1, .ref (w.1 p1)), (2, .ref (w.1 p2))]) dX5_rollAll_1 rfl (by decide) rfl ?_
  refine jr_iconst X.c (v := (0 : Int32)) dX5_rollAll_2 (by decide) ?_
  refine jr_istore X.c (lv2 := [(4, .int (0 : Int32)), (3, .ref (w.1 p2)), (0, .ref (w.1 153)), (1, .ref (w.1 p1)), (2, .ref (w.1 p2))]) dX5_rollAll_3 (by decide) rfl ?_
  obtain ⟨e5, he5, h⟩ := cr_bd_s h
  have kx25 : ∀ (u3_5_25 : Nat) (V_e5_25 : cr_Hp), e5 = (.inl (u3_5_25, V_e5_25)) → cr_J w 6 p l e rm_X5_rollAll s m args below meth c 0 0 (MQ below (cr_Qv w x) args s 0 0 (cr_A w)) V_e5_25 25 [(0, .ref (w.1 153)), (3, .ref (w.1 u3_5_25))] [] := by
    intro u3_5_25 V_e5_25 qx
    rw [qx] at h
    rw [cr_sl_e, cr_u2_e] at h
    obtain ⟨hu3_5_25, h⟩ := cr_gd_s h
    refine jr_goto X.c 70 dX5_rollAll_25 (by decide) ?_
    refine jr_sub [0, 1] rfl ?_
    exact t_X5_rollAll_b70 X u3_5_25 V_e5_25 hu3_5_25 hr0 x  h
  have kx70 : ∀ (u3_5_70 : Nat) (V_e5_70 : cr_Hp), e5 = (.inr (u3_5_70, V_e5_70)) → cr_J w 6 p l e rm_X5_rollAll s m args below meth c 0 0 (MQ below (cr_Qv w x) args s 0 0 (cr_A w)) V_e5_70 70 [(0, .ref (w.1 153)), (3, .ref (w.1 u3_5_70))] [] := by
    intro u3_5_70 V_e5_70 qx
    rw [qx] at h
    rw [cr_sr_e, cr_u2_e] at h
    obtain ⟨hu3_5_70, h⟩ := cr_gd_s h
    refine jr_sub [0, 1] rfl ?_
    exact t_X5_rollAll_b70 X u3_5_70 V_e5_70 hu3_5_70 hr0 x  h
  refine jr_sub [2, 3, 1, 0] rfl ?_
  refine cr_it_W (f := (fun (q : Nat × Int32 × cr_Hp) => f_X5_rollAll_l5 p1 q.1 q.2.1 q.2.2)) (P := fun (q : Nat × Int32 × cr_Hp) => cr_J w 6 p l e rm_X5_rollAll s m args below meth c 0 0 (MQ below (cr_Qv w x) args s 0 0 (cr_A w)) q.2.2 5 [(0, .ref (w.1 153)), (1, .ref (w.1 p1)), (3, .ref (w.1 q.1)), (4, .int q.2.1)] []) (K := fun z => z = e5) (fun q x hx kl kr => ?_) cr_FU (p2, (0 : Int32), V) e5 he5 rfl
  obtain ⟨x3_5, x4_5, V_l5⟩ := q
  exact t_X5_rollAll_l5 X p1 x3_5 x4_5 V_l5 hp1 x hx (fun x3_5 x4_5 V_l5 ez => kl _ ez) (fun u3_5_25 V_e5_25 ez => kx25 u3_5_25 V_e5_25 ((kr _ ez).symm)) (fun u3_5_70 V_e5_70 ez => kx70 u3_5_70 V_e5_70 ((kr _ ez).symm))
set_option maxRecDepth 100000 in
set_option maxHeartbeats 4000000 in
theorem m_X5_rollAll (l : Launch) (w : cr_Wd) (V : cr_Hp) (p1 : Nat) (p2 : Nat) (hp1 : cr_pg p1) (hp2 : cr_ma p2) (x : cr_Hp) (h : f_X5_rollAll p1 p2 V = some x) : Met l yX5_rollAll (cr_wds yX5_rollAll cX5_rollAll 6 none) rm_X5_rollAll (cr_Pc w V [.ref (w.1 153), .ref (w.1 p1), .ref (w.1 p2)]) (cr_Qv w x) 0 0 (cr_A w) := by
  refine cr_met (own := RX5) (lv := [(0, .ref (w.1 153)), (1, .ref (w.1 p1)), (2, .ref (w.1 p2))]) (by decide +kernel) rfl (Nat.le_of_ble_eq_true rfl) rfl (fun p e s m args below meth c X hr0 => ?_)
  exact t_X5_rollAll X p1 p2 V hp1 hp2 hr0 x h
abbrev rm_X3_isWonBy : Room := { frames := 2, cells := 0, slots := 0, locals := 49 }
theorem hd_X3_isWonBy : yX3_isWonBy.cls = RX3 ∧ yX3_isWonBy.cls ≠ "java/lang/invoke/MethodHandle" ∧ yX3_isWonBy.cls ≠ "java/lang/invoke/VarHandle" ∧ (parseMethodDescriptor yX3_isWonBy.desc).map (fun d => d.parameters.length) = some 2 := by decide +kernel
def f_X3_isWonBy (a0 : Nat) (p1 : Nat) (x2 : Int32) (V : cr_Hp) : Option (Int32) :=
  if (V p1 6) = 0 then (some (0 : Int32)) else (if (V p1 8) = 0 then (some (0 : Int32)) else (if (V p1 4) = x2 then (some (0 : Int32)) else (if (V p1 7) = 0 then (some (0 : Int32)) else (cr_bd (f_X3_ringsAround a0 (V p1 1) (V p1 2) V) (fun (r38 : Int32) => if r38 = 0 then (some (1 : Int32)) else (some (0 : Int32)))))))
set_option maxRecDepth 100000 in
set_option maxHeartbeats 4000000 in
theorem t_X3_isWonBy {p : Program} {l : Launch} {e : Env} {s : State} {m : MethodId} {args : Array Value} {below : List Frame} {meth : Method} {c : Code} {w : cr_Wd} (X : cr_Cx w RX3 (Cond.code yX3_isWonBy cX3_isWonBy 3 (some .boolean)) cX3_isWonBy 3 p s m args meth c) (a0 : Nat) (p1 : Nat) (x2 : Int32) (V : cr_Hp) (ha0 : cr_pg a0) (hp1 : cr_ma p1) (hr0 : meth.sig.returnType = (some .boolean)) (x : Int32) (h : f_X3_isWonBy a0 p1 x2 V = some x) : cr_J w 3 p l e rm_X3_isWonBy s m args below meth c 0 0 (MQ below (cr_Qi w V x) args s 0 0 (cr_A w)) V 0 [(0, .ref (w.1 a0)), (1, .ref (w.1 p1)), (2, .int x2)] [] := by
  unfold f_X3_isWonBy at h
  refine jr_aload_n X.c dX3_isWonBy_0 rfl 1 rfl ?_
  refine jr_get X.c (ci := 2) (C := RX2) (T := TX2) (N := 9) (k := 6) rfl cr_in2 (cr_l_ma hp1) ((cr_row_ma w hp1) _) rfl (by decide) fl_X3_59 dX3_isWonBy_1 ?_
  refine jr_if_eq X.c 48 dX3_isWonBy_4 (by decide) (fun q4 => ?_) (fun q4 => ?_)
  · replace h := cr_if_t q4 h
    refine jr_iconst X.c (v := (0 : Int32)) dX3_isWonBy_48 (by decide) ?_
    cases h
    exact jr_zret X.c (r := (0 : Int32)) hr0 (by decide) dX3_isWonBy_49
  · replace h := cr_if_f q4 h
    refine jr_aload_n X.c dX3_isWonBy_7 rfl 1 rfl ?_
    refine jr_get X.c (ci := 2) (C := RX2) (T := TX2) (N := 9) (k := 8) rfl cr_in2 (cr_l_ma hp1) ((cr_row_ma w hp1) _) rfl (by decide) fl_X3_119 dX3_isWonBy_8 ?_
    refine jr_if_eq X.c 48 dX3_isWonBy_11 (by decide) (fun q11 => ?_) (fun q11 => ?_)
    · replace h := cr_if_t q11 h
      refine jr_iconst X.c (v := (0 : Int32)) dX3_isWonBy_48 (by decide) ?_
      cases h
      exact jr_zret X.c (r := (0 : Int32)) hr0 (by decide) dX3_isWonBy_49
    · replace h := cr_if_f q11 h
      refine jr_aload_n X.c dX3_isWonBy_14 rfl 1 rfl ?_
      refine jr_get X.c (ci := 2) (C := RX2) (T := TX2) (N := 9) (k := 4) rfl cr_in2 (cr_l_ma hp1) ((cr_row_ma w hp1) _) rfl (by decide) fl_X3_90 dX3_isWonBy_15 ?_
      refine jr_iload_n X.c dX3_isWonBy_18 rfl 2 rfl ?_
      refine jr_icmp_eq X.c 48 dX3_isWonBy_19 (by decide) (fun q19 => ?_) (fun q19 => ?_)
      · replace h := cr_if_t q19 h
        refine jr_iconst X.c (v := (0 : Int32)) dX3_isWonBy_48 (by decide) ?_
        cases h
        exact jr_zret X.c (r := (0 : Int32)) hr0 (by decide) dX3_isWonBy_49
      · replace h := cr_if_f q19 h
        refine jr_aload_n X.c dX3_isWonBy_22 rfl 1 rfl ?_
        refine jr_get X.c (ci := 2) (C := RX2) (T := TX2) (N := 9) (k := 7) rfl cr_in2 (cr_l_ma hp1) ((cr_row_ma w hp1) _) rfl (by decide) fl_X3_116 dX3_isWonBy_23 ?_
        refine jr_if_eq X.c 48 dX3_isWonBy_26 (by decide) (fun q26 => ?_) (fun q26 => ?_)
        · replace h := cr_if_t q26 h
          refine jr_iconst X.c (v := (0 : Int32)) dX3_isWonBy_48 (by decide) ?_
          cases h
          exact jr_zret X.c (r := (0 : Int32)) hr0 (by decide) dX3_isWonBy_49
        · replace h := cr_if_f q26 h
          refine jr_aload_n X.c dX3_isWonBy_29 rfl 0 rfl ?_
          refine jr_aload_n X.c dX3_isWonBy_30 rfl 1 rfl ?_
          refine jr_get X.c (ci := 2) (C := RX2) (T := TX2) (N := 9) (k := 1) rfl cr_in2 (cr_l_ma hp1) ((cr_row_ma w hp1) _) rfl (by decide) fl_X3_81 dX3_isWonBy_31 ?_
          refine jr_aload_n X.c dX3_isWonBy_34 rfl 1 rfl ?_
          refine jr_get X.c (ci := 2) (C := RX2) (T := TX2) (N := 9) (k := 2) rfl cr_in2 (cr_l_ma hp1) ((cr_row_ma w hp1) _) rfl (by decide) fl_X3_84 dX3_isWonBy_35 ?_
          obtain ⟨r38, hr38, h⟩ := cr_bd_s h
          refine jc_Vi X.c (As := [.int (V p1 1), .int (V p1 2)]) (V1 := V) (C := RX3) (T := TX3) (N := 10) (ci := 3) 2 (m_X3_ringsAround l w V a0 (V p1 1) (V p1 2) ha0 r38 hr38) ⟨rfl, rfl⟩ ml_X3_112 im_X3_ringsAround sl_X3_ringsAround in_X3 cd_X3_ringsAround hd_X3_ringsAround ⟨Nat.le_of_ble_eq_true rfl, Nat.le_of_ble_eq_true rfl⟩ ⟨Nat.le_of_ble_eq_true rfl, Nat.le_of_ble_eq_true rfl⟩ rfl (Nat.le_of_ble_eq_true rfl) (cr_l_pg ha0) ((cr_row_pg w ha0) _) rfl rfl dX3_isWonBy_38 ?_
          refine jr_if_ne X.c 48 dX3_isWonBy_41 (by decide) (fun q41 => ?_) (fun q41 => ?_)
          · replace h := cr_if_f q41 h
            refine jr_iconst X.c (v := (0 : Int32)) dX3_isWonBy_48 (by decide) ?_
            cases h
            exact jr_zret X.c (r := (0 : Int32)) hr0 (by decide) dX3_isWonBy_49
          · replace h := cr_if_t q41 h
            refine jr_iconst X.c (v := (1 : Int32)) dX3_isWonBy_44 (by decide) ?_
            refine jr_goto X.c 49 dX3_isWonBy_45 (by decide) ?_
            cases h
            exact jr_zret X.c (r := (1 : Int32)) hr0 (by decide) dX3_isWonBy_49
set_option maxRecDepth 100000 in
set_option maxHeartbeats 4000000 in
theorem m_X3_isWonBy (l : Launch) (w : cr_Wd) (V : cr_Hp) (a0 : Nat) (p1 : Nat) (x2 : Int32) (ha0 : cr_pg a0) (hp1 : cr_ma p1) (x : Int32) (h : f_X3_isWonBy a0 p1 x2 V = some x) : Met l yX3_isWonBy (cr_wds yX3_isWonBy cX3_isWonBy 3 (some .boolean)) rm_X3_isWonBy (cr_Pc w V [.ref (w.1 a0), .ref (w.1 p1), .int x2]) (cr_Qi w V x) 0 0 (cr_A w) := by
  refine cr_met (own := RX3) (lv := [(0, .ref (w.1 a0)), (1, .ref (w.1 p1)), (2, .int x2)]) (by decide +kernel) rfl (Nat.le_of_ble_eq_true rfl) rfl (fun p e s m args below meth c X hr0 => ?_)
  exact t_X3_isWonBy X a0 p1 x2 V ha0 hp1 hr0 x h
abbrev rm_X3_growRings : Room := { frames := 0, cells := 0, slots := 0, locals := 0 }
theorem hd_X3_growRings : yX3_growRings.cls = RX3 ∧ yX3_growRings.cls ≠ "java/lang/invoke/MethodHandle" ∧ yX3_growRings.cls ≠ "java/lang/invoke/VarHandle" ∧ (parseMethodDescriptor yX3_growRings.desc).map (fun d => d.parameters.length) = some 1 := by decide +kernel
def f_X3_growRings_l2 (a0 : Nat) (x1 : Int32) (x2_2 : Int32) (V_l2 : cr_Hp) : Option ((Int32 × cr_Hp) ⊕ cr_Hp) :=
  if (4 : Int32) ≤ x2_2 then (some (.inr V_l2)) else (cr_gd (cr_ix x2_2 4) (if ((x1 >>> (x2_2 &&& 31)) &&& (1 : Int32)) = (1 : Int32) then (if (15 : Int32) ≤ (V_l2 ((a0 + 2) + 13 + x2_2.toNatClampNeg) 2) then (some (.inl ((x2_2 + (1 : Int32)), V_l2))) else (cr_lt (cr_pt V_l2 ((a0 + 2) + 13 + x2_2.toNatClampNeg) 2 ((V_l2 ((a0 + 2) + 13 + x2_2.toNatClampNeg) 2) + (1 : Int32))) (fun (V47 : cr_Hp) => cr_lt (cr_pt V47 a0 8 ((V47 a0 8) + (1 : Int32))) (fun (V57 : cr_Hp) => some (.inl ((x2_2 + (1 : Int32)), V57)))))) else (some (.inl ((x2_2 + (1 : Int32)), V_l2)))))
set_option maxRecDepth 100000 in
set_option maxHeartbeats 4000000 in
theorem t_X3_growRings_l2 {p : Program} {l : Launch} {e : Env} {s : State} {m : MethodId} {args : Array Value} {below : List Frame} {meth : Method} {c : Code} {w : cr_Wd} {Q : State → Prop} (X : cr_Cx w RX3 (Cond.code yX3_growRings cX3_growRings 4 none) cX3_growRings 4 p s m args meth c) (a0 : Nat) (x1 : Int32) (x2_2 : Int32) (V_l2 : cr_Hp) (ha0 : cr_pg a0) (x : (Int32 × cr_Hp) ⊕ cr_Hp) (h : f_X3_growRings_l2 a0 x1 x2_2 V_l2 = some x) (kl : ∀ (x2_2 : Int32) (V_l2 : cr_Hp), x = .inl (x2_2, V_l2) → cr_J w 4 p l e rm_X3_growRings s m args below meth c 0 0 Q V_l2 2 [(0, .ref (w.1 a0)), (1, .int x1), (2, .int x2_2)] []) (kr66 : ∀ (V_e2_66 : cr_Hp), x = .inr V_e2_66 → cr_J w 4 p l e rm_X3_growRings s m args below meth c 0 0 Q V_e2_66 66 [] []) : cr_J w 4 p l e rm_X3_growRings s m args below meth c 0 0 Q V_l2 2 [(0, .ref (w.1 a0)), (1, .int x1), (2, .int x2_2)] [] := by
  unfold f_X3_growRings_l2 at h
  refine jr_iload_n X.c dX3_growRings_2 rfl 2 rfl ?_
  refine jr_aload_n X.c dX3_growRings_3 rfl 0 rfl ?_
  refine jr_get X.c (ci := 3) (C := RX3) (T := TX3) (N := 10) (k := 1) rfl cr_in3 (cr_l_pg ha0) ((cr_row_pg w ha0) _) rfl (by decide) fl_X3_22 dX3_growRings_4 ?_
  refine jr_alen X.c (v := (4 : Int32)) 3 rfl (cr_l_rs (cr_pg_rs ha0)) ((cr_row_rs w (cr_pg_rs ha0)) _) rfl dX3_growRings_7 ?_
  refine jr_icmp_ge X.c 66 dX3_growRings_8 (by decide) (fun q8 => ?_) (fun q8 => ?_)
  · replace h := cr_if_t q8 h
    cases h
    refine jr_sub [] rfl ?_
    exact kr66 V_l2 rfl
  · replace h := cr_if_f q8 h
    refine jr_aload_n X.c dX3_growRings_11 rfl 0 rfl ?_
    refine jr_get X.c (ci := 3) (C := RX3) (T := TX3) (N := 10) (k := 1) rfl cr_in3 (cr_l_pg ha0) ((cr_row_pg w ha0) _) rfl (by decide) fl_X3_22 dX3_growRings_12 ?_
    refine jr_iload_n X.c dX3_growRings_15 rfl 2 rfl ?_
    obtain ⟨hi16, h⟩ := cr_gd_s h
    refine jr_aald X.c (f := (fun j => (a0 + 2) + 13 + j)) 3 rfl (cr_l_rs (cr_pg_rs ha0)) ((cr_row_rs w (cr_pg_rs ha0)) _) hi16 dX3_growRings_16 ?_
    refine jr_astore_n X.c (lv2 := [(3, .ref (w.1 ((a0 + 2) + 13 + x2_2.toNatClampNeg))), (0, .ref (w.1 a0)), (1, .int x1), (2, .int x2_2)]) dX3_growRings_17 rfl (by decide) rfl ?_
    refine jr_aload_n X.c dX3_growRings_18 rfl 0 rfl ?_
    refine jr_ifnullR X.c dX3_growRings_19 ?_
    refine jr_iload_n X.c dX3_growRings_22 rfl 2 rfl ?_
    refine jr_iload_n X.c dX3_growRings_23 rfl 3 rfl ?_
    refine jr_ishr X.c dX3_growRings_24 ?_
    refine jr_iconst X.c (v := (1 : Int32)) dX3_growRings_25 (by decide) ?_
    refine jr_iand X.c dX3_growRings_26 ?_
    refine jr_iconst X.c (v := (1 : Int32)) dX3_growRings_27 (by decide) ?_
    refine jr_icmp_ne X.c 60 dX3_growRings_28 (by decide) (fun q28 => ?_) (fun q28 => ?_)
    · replace h := cr_if_f q28 h
      refine jr_iinc X.c (v := (x2_2 + (1 : Int32))) (lv2 := [(2, .int (x2_2 + (1 : Int32))), (3, .ref (w.1 ((a0 + 2) + 13 + x2_2.toNatClampNeg))), (0, .ref (w.1 a0)), (1, .int x1)]) dX3_growRings_60 3 rfl (by rfl) (by decide) rfl ?_
      refine jr_goto X.c 2 dX3_growRings_63 (by decide) ?_
      cases h
      refine jr_sub [2, 3, 0] rfl ?_
      exact kl (x2_2 + (1 : Int32)) V_l2 rfl
    · replace h := cr_if_t q28 h
      refine jr_aload_n X.c dX3_growRings_31 rfl 0 rfl ?_
      refine jr_get X.c (ci := 4) (C := RX4) (T := TX4) (N := 3) (k := 2) rfl cr_in4 (cr_l_rg (cr_rs_rg (cr_pg_rs ha0) (cr_ix_lt hi16))) ((cr_row_rg w (cr_rs_rg (cr_pg_rs ha0) (cr_ix_lt hi16))) _) rfl (by decide) fl_X3_66 dX3_growRings_32 ?_
      refine jr_bipush X.c (v := (15 : Int32)) dX3_growRings_35 (by decide) ?_
      refine jr_icmp_ge X.c 60 dX3_growRings_37 (by decide) (fun q37 => ?_) (fun q37 => ?_)
      · replace h := cr_if_t q37 h
        refine jr_iinc X.c (v := (x2_2 + (1 : Int32))) (lv2 := [(2, .int (x2_2 + (1 : Int32))), (3, .ref (w.1 ((a0 + 2) + 13 + x2_2.toNatClampNeg))), (0, .ref (w.1 a0)), (1, .int x1)]) dX3_growRings_60 3 rfl (by rfl) (by decide) rfl ?_
        refine jr_goto X.c 2 dX3_growRings_63 (by decide) ?_
        cases h
        refine jr_sub [2, 3, 0] rfl ?_
        exact kl (x2_2 + (1 : Int32)) V_l2 rfl
      · replace h := cr_if_f q37 h
        refine jr_aload_n X.c dX3_growRings_40 rfl 0 rfl ?_
        refine jr_dup X.c dX3_growRings_41 rfl ?_
        refine jr_get X.c (ci := 4) (C := RX4) (T := TX4) (N := 3) (k := 2) rfl cr_in4 (cr_l_rg (cr_rs_rg (cr_pg_rs ha0) (cr_ix_lt hi16))) ((cr_row_rg w (cr_rs_rg (cr_pg_rs ha0) (cr_ix_lt hi16))) _) rfl (by decide) fl_X3_66 dX3_growRings_42 ?_
        refine jr_iconst X.c (v := (1 : Int32)) dX3_growRings_45 (by decide) ?_
        refine jr_iadd X.c dX3_growRings_46 ?_
        obtain ⟨V47, eV47, h⟩ := cr_lt_s h
        refine jr_put X.c (ci := 4) (C := RX4) (T := TX4) (N := 3) (k := 2) rfl cr_in4 tyX4 tyX4_ok nmX4 (cr_l_rg (cr_rs_rg (cr_pg_rs ha0) (cr_ix_lt hi16))) (cr_row_rg w (cr_rs_rg (cr_pg_rs ha0) (cr_ix_lt hi16))) rfl (Nat.le_of_ble_eq_true rfl) (by decide) rfl rfl rfl fl_X3_66 dX3_growRings_47 eV47 ?_
        refine jr_aload_n X.c dX3_growRings_50 rfl 1 rfl ?_
        refine jr_dup X.c dX3_growRings_51 rfl ?_
        refine jr_get X.c (ci := 3) (C := RX3) (T := TX3) (N := 10) (k := 8) rfl cr_in3 (cr_l_pg ha0) ((cr_row_pg w ha0) _) rfl (by decide) fl_X3_53 dX3_growRings_52 ?_
        refine jr_iconst X.c (v := (1 : Int32)) dX3_growRings_55 (by decide) ?_
        refine jr_iadd X.c dX3_growRings_56 ?_
        obtain ⟨V57, eV57, h⟩ := cr_lt_s h
        refine jr_put X.c (ci := 3) (C := RX3) (T := TX3) (N := 10) (k := 8) rfl cr_in3 tyX3 tyX3_ok nmX3 (cr_l_pg ha0) (cr_row_pg w ha0) rfl (Nat.le_of_ble_eq_true rfl) (by decide) rfl rfl rfl fl_X3_53 dX3_growRings_57 eV57 ?_
        refine jr_iinc X.c (v := (x2_2 + (1 : Int32))) (lv2 := [(2, .int (x2_2 + (1 : Int32))), (3, .ref (w.1 ((a0 + 2) + 13 + x2_2.toNatClampNeg))), (0, .ref (w.1 a0)), (1, .int x1)]) dX3_growRings_60 3 rfl (by rfl) (by decide) rfl ?_
        refine jr_goto X.c 2 dX3_growRings_63 (by decide) ?_
        cases h
        refine jr_sub [2, 3, 0] rfl ?_
        exact kl (x2_2 + (1 : Int32)) V57 rfl
def f_X3_growRings (a0 : Nat) (x1 : Int32) (V : cr_Hp) : Option (cr_Hp) :=
  cr_bd (cr_it (fun (q : Int32 × cr_Hp) => f_X3_growRings_l2 a0 x1 q.1 q.2) cr_FU ((0 : Int32), V)) (fun (V_e2_66 : cr_Hp) => some V_e2_66)
set_option maxRecDepth 100000 in
set_option maxHeartbeats 4000000 in
theorem t_X3_growRings {p : Program} {l : Launch} {e : Env} {s : State} {m : MethodId} {args : Array Value} {below : List Frame} {meth : Method} {c : Code} {w : cr_Wd} (X : cr_Cx w RX3 (Cond.code yX3_growRings cX3_growRings 4 none) cX3_growRings 4 p s m args meth c) (a0 : Nat) (x1 : Int32) (V : cr_Hp) (ha0 : cr_pg a0) (hr0 : meth.sig.returnType = none) (x : cr_Hp) (h : f_X3_growRings a0 x1 V = some x) : cr_J w 4 p l e rm_X3_growRings s m args below meth c 0 0 (MQ below (cr_Qv w x) args s 0 0 (cr_A w)) V 0 [(0, .ref (w.1 a0)), (1, .int x1)] [] := by
  unfold f_X3_growRings at h
  refine jr_iconst X.c (v := (0 : Int32)) dX3_growRings_0 (by decide) ?_
  refine jr_istore_n X.c (lv2 := [(2, .int (0 : Int32)), (0, .ref (w.1 a0)), (1, .int x1)]) dX3_growRings_1 rfl (by decide) rfl ?_
  obtain ⟨e2, he2, h⟩ := cr_bd_s h
  have kx66 : ∀ (V_e2_66 : cr_Hp), e2 = V_e2_66 → cr_J w 4 p l e rm_X3_growRings s m args below meth c 0 0 (MQ below (cr_Qv w x) args s 0 0 (cr_A w)) V_e2_66 66 [] [] := by
    intro V_e2_66 qx
    rw [qx] at h
    cases h
    exact jr_vret X.c hr0 dX3_growRings_66
  refine jr_sub [1, 2, 0] rfl ?_
  refine cr_it_W (f := (fun (q : Int32 × cr_Hp) => f_X3_growRings_l2 a0 x1 q.1 q.2)) (P := fun (q : Int32 × cr_Hp) => cr_J w 4 p l e rm_X3_growRings s m args below meth c 0 0 (MQ below (cr_Qv w x) args s 0 0 (cr_A w)) q.2 2 [(0, .ref (w.1 a0)), (1, .int x1), (2, .int q.1)] []) (K := fun z => z = e2) (fun q x hx kl kr => ?_) cr_FU ((0 : Int32), V) e2 he2 rfl
  obtain ⟨x2_2, V_l2⟩ := q
  exact t_X3_growRings_l2 X a0 x1 x2_2 V_l2 ha0 x hx (fun x2_2 V_l2 ez => kl _ ez) (fun V_e2_66 ez => kx66 V_e2_66 ((kr _ ez).symm))
set_option maxRecDepth 100000 in
set_option maxHeartbeats 4000000 in
theorem m_X3_growRings (l : Launch) (w : cr_Wd) (V : cr_Hp) (a0 : Nat) (x1 : Int32) (ha0 : cr_pg a0) (x : cr_Hp) (h : f_X3_growRings a0 x1 V = some x) : Met l yX3_growRings (cr_wds yX3_growRings cX3_growRings 4 none) rm_X3_growRings (cr_Pc w V [.ref (w.1 a0), .int x1]) (cr_Qv w x) 0 0 (cr_A w) := by
  refine cr_met (own := RX3) (lv := [(0, .ref (w.1 a0)), (1, .int x1)]) (by decide +kernel) rfl (Nat.le_of_ble_eq_true rfl) rfl (fun p e s m args below meth c X hr0 => ?_)
  exact t_X3_growRings X a0 x1 V ha0 hr0 x h
abbrev rm_X5_takeWinnings : Room := { frames := 3, cells := 0, slots := 0, locals := 71 }
theorem hd_X5_takeWinnings : yX5_takeWinnings.cls = RX5 ∧ yX5_takeWinnings.cls ≠ "java/lang/invoke/MethodHandle" ∧ yX5_takeWinnings.cls ≠ "java/lang/invoke/VarHandle" ∧ (parseMethodDescriptor yX5_takeWinnings.desc).map (fun d => d.parameters.length) = some 2 := by decide +kernel
def f_X5_takeWinnings_l5 (p1 : Nat) (x2 : Int32) (x3_5 : Int32) (x4_5 : Int32) (V_l5 : cr_Hp) : Option ((Int32 × Int32 × cr_Hp) ⊕ (Int32 × cr_Hp)) :=
  if (V_l5 p1 2) ≤ x4_5 then (some (.inr (x3_5, V_l5))) else (cr_bd (f_X3_findMarble p1 x4_5 V_l5) (fun (r17 : Option Nat) => cr_on r17 (some (.inl (x3_5, (x4_5 + (1 : Int32)), V_l5))) (fun (a17 : Nat) => cr_gd (cr_ma a17) (cr_bd (f_X3_isWonBy p1 a17 x2 V_l5) (fun (r31 : Int32) => if r31 = 0 then (some (.inl (x3_5, (x4_5 + (1 : Int32)), V_l5))) else (cr_lt (cr_pt V_l5 a17 6 (0 : Int32)) (fun (V40 : cr_Hp) => cr_lt (cr_pt V40 a17 5 x2) (fun (V46 : cr_Hp) => cr_lt (cr_pt V46 153 0 ((V46 153 0) + (1 : Int32))) (fun (V56 : cr_Hp) => cr_lt (cr_pt V56 153 1 ((V56 153 1) + (V56 a17 3))) (fun (V70 : cr_Hp) => cr_lt ((x3_5 ||| (V70 a17 7))) (fun (n80 : Int32) => some (.inl (n80, (x4_5 + (1 : Int32)), V70)))))))))))))
set_option maxRecDepth 100000 in
set_option maxHeartbeats 4000000 in
theorem t_X5_takeWinnings_l5 {p : Program} {l : Launch} {e : Env} {s : State} {m : MethodId} {args : Array Value} {below : List Frame} {meth : Method} {c : Code} {w : cr_Wd} {Q : State → Prop} (X : cr_Cx w RX5 (Cond.code yX5_takeWinnings cX5_takeWinnings 6 none) cX5_takeWinnings 6 p s m args meth c) (p1 : Nat) (x2 : Int32) (x3_5 : Int32) (x4_5 : Int32) (V_l5 : cr_Hp) (hp1 : cr_pg p1) (x : (Int32 × Int32 × cr_Hp) ⊕ (Int32 × cr_Hp)) (h : f_X5_takeWinnings_l5 p1 x2 x3_5 x4_5 V_l5 = some x) (kl : ∀ (x3_5 : Int32) (x4_5 : Int32) (V_l5 : cr_Hp), x = .inl (x3_5, x4_5, V_l5) → cr_J w 6 p l e rm_X5_takeWinnings s m args below meth c 0 0 Q V_l5 5 [(0, .ref (w.1 153)), (1, .ref (w.1 p1)), (2, .int x2), (3, .int x3_5), (4, .int x4_5)] []) (kr87 : ∀ (u3_5_87 : Int32) (V_e5_87 : cr_Hp), x = .inr (u3_5_87, V_e5_87) → cr_J w 6 p l e rm_X5_takeWinnings s m args below meth c 0 0 Q V_e5_87 87 [(1, .ref (w.1 p1)), (3, .int u3_5_87)] []) : cr_J w 6 p l e rm_X5_takeWinnings s m args below meth c 0 0 Q V_l5 5 [(0, .ref (w.1 153)), (1, .ref (w.1 p1)), (2, .int x2), (3, .int x3_5), (4, .int x4_5)] [] := by
  unfold f_X5_takeWinnings_l5 at h
  refine jr_iload X.c dX5_takeWinnings_5 4 rfl ?_
  refine jr_aload_n X.c dX5_takeWinnings_7 rfl 1 rfl ?_
  refine jr_get X.c (ci := 3) (C := RX3) (T := TX3) (N := 10) (k := 2) rfl cr_in3 (cr_l_pg hp1) ((cr_row_pg w hp1) _) rfl (by decide) fl_X5_128 dX5_takeWinnings_8 ?_
  refine jr_icmp_ge X.c 87 dX5_takeWinnings_11 (by decide) (fun q11 => ?_) (fun q11 => ?_)
  · replace h := cr_if_t q11 h
    cases h
    refine jr_sub [1, 3] rfl ?_
    exact kr87 x3_5 V_l5 rfl
  · replace h := cr_if_f q11 h
    refine jr_aload_n X.c dX5_takeWinnings_14 rfl 1 rfl ?_
    refine jr_iload X.c dX5_takeWinnings_15 4 rfl ?_
    obtain ⟨r17, hr17, h⟩ := cr_bd_s h
    refine jc_Ve X.c (As := [.int x4_5]) (V1 := V_l5) (C := RX3) (T := TX3) (N := 10) (ci := 3) 1 (m_X3_findMarble l w V_l5 p1 x4_5 hp1 r17 hr17) ⟨rfl, rfl⟩ ml_X5_40 im_X3_findMarble sl_X3_findMarble in_X3 cd_X3_findMarble hd_X3_findMarble ⟨Nat.le_of_ble_eq_true rfl, Nat.le_of_ble_eq_true rfl⟩ ⟨Nat.le_of_ble_eq_true rfl, Nat.le_of_ble_eq_true rfl⟩ rfl (Nat.le_of_ble_eq_true rfl) (cr_l_pg hp1) ((cr_row_pg w hp1) _) rfl rfl dX5_takeWinnings_17 (fun eq17 => ?_) (fun a17 eq17 => ?_)
    · subst eq17
      replace h := cr_on_n h
      refine jr_astoreN X.c (lv2 := [(5, .null), (0, .ref (w.1 153)), (1, .ref (w.1 p1)), (2, .int x2), (3, .int x3_5), (4, .int x4_5)]) dX5_takeWinnings_20 (by decide) rfl ?_
      refine jr_aloadN X.c dX5_takeWinnings_22 0 rfl ?_
      refine jr_ifnullN X.c 81 dX5_takeWinnings_24 (by decide) ?_
      refine jr_iinc X.c (v := (x4_5 + (1 : Int32))) (lv2 := [(4, .int (x4_5 + (1 : Int32))), (5, .null), (0, .ref (w.1 153)), (1, .ref (w.1 p1)), (2, .int x2), (3, .int x3_5)]) dX5_takeWinnings_81 5 rfl (by rfl) (by decide) rfl ?_
      refine jr_goto X.c 5 dX5_takeWinnings_84 (by decide) ?_
      cases h
      refine jr_sub [2, 3, 4, 5, 0] rfl ?_
      exact kl x3_5 (x4_5 + (1 : Int32)) V_l5 rfl
    · subst eq17
      replace h := cr_on_s h
      obtain ⟨ha17, h⟩ := cr_gd_s h
      refine jr_astore X.c (lv2 := [(5, .ref (w.1 a17)), (0, .ref (w.1 153)), (1, .ref (w.1 p1)), (2, .int x2), (3, .int x3_5), (4, .int x4_5)]) dX5_takeWinnings_20 (by decide) rfl ?_
      refine jr_aload X.c dX5_takeWinnings_22 0 rfl ?_
      refine jr_ifnullR X.c dX5_takeWinnings_24 ?_
      refine jr_aload_n X.c dX5_takeWinnings_27 rfl 2 rfl ?_
      refine jr_aload X.c dX5_takeWinnings_28 0 rfl ?_
      refine jr_iload_n X.c dX5_takeWinnings_30 rfl 3 rfl ?_
      obtain ⟨r31, hr31, h⟩ := cr_bd_s h
      refine jc_Vi X.c (As := [.ref (w.1 a17), .int x2]) (V1 := V_l5) (C := RX3) (T := TX3) (N := 10) (ci := 3) 2 (m_X3_isWonBy l w V_l5 p1 a17 x2 hp1 ha17 r31 hr31) ⟨rfl, rfl⟩ ml_X5_131 im_X3_isWonBy sl_X3_isWonBy in_X3 cd_X3_isWonBy hd_X3_isWonBy ⟨Nat.le_of_ble_eq_true rfl, Nat.le_of_ble_eq_true rfl⟩ ⟨Nat.le_of_ble_eq_true rfl, Nat.le_of_ble_eq_true rfl⟩ rfl (Nat.le_of_ble_eq_true rfl) (cr_l_pg hp1) ((cr_row_pg w hp1) _) rfl rfl dX5_takeWinnings_31 ?_
      refine jr_if_eq X.c 81 dX5_takeWinnings_34 (by decide) (fun q34 => ?_) (fun q34 => ?_)
      · replace h := cr_if_t q34 h
        refine jr_iinc X.c (v := (x4_5 + (1 : Int32))) (lv2 := [(4, .int (x4_5 + (1 : Int32))), (5, .ref (w.1 a17)), (0, .ref (w.1 153)), (1, .ref (w.1 p1)), (2, .int x2), (3, .int x3_5)]) dX5_takeWinnings_81 5 rfl (by rfl) (by decide) rfl ?_
        refine jr_goto X.c 5 dX5_takeWinnings_84 (by decide) ?_
        cases h
        refine jr_sub [2, 3, 4, 5, 0] rfl ?_
        exact kl x3_5 (x4_5 + (1 : Int32)) V_l5 rfl
      · replace h := cr_if_f q34 h
        refine jr_aload X.c dX5_takeWinnings_37 0 rfl ?_
        refine jr_iconst X.c (v := (0 : Int32)) dX5_takeWinnings_39 (by decide) ?_
        obtain ⟨V40, eV40, h⟩ := cr_lt_s h
        refine jr_put X.c (ci := 2) (C := RX2) (T := TX2) (N := 9) (k := 6) rfl cr_in2 tyX2 tyX2_ok nmX2 (cr_l_ma ha17) (cr_row_ma w ha17) rfl (Nat.le_of_ble_eq_true rfl) (by decide) rfl (by decide) (by decide) fl_X5_135 dX5_takeWinnings_40 eV40 ?_
        refine jr_aload X.c dX5_takeWinnings_43 0 rfl ?_
        refine jr_iload_n X.c dX5_takeWinnings_45 rfl 3 rfl ?_
        obtain ⟨V46, eV46, h⟩ := cr_lt_s h
        refine jr_put X.c (ci := 2) (C := RX2) (T := TX2) (N := 9) (k := 5) rfl cr_in2 tyX2 tyX2_ok nmX2 (cr_l_ma ha17) (cr_row_ma w ha17) rfl (Nat.le_of_ble_eq_true rfl) (by decide) rfl rfl rfl fl_X5_138 dX5_takeWinnings_46 eV46 ?_
        refine jr_aload_n X.c dX5_takeWinnings_49 rfl 1 rfl ?_
        refine jr_dup X.c dX5_takeWinnings_50 rfl ?_
        refine jr_get X.c (ci := 5) (C := RX5) (T := TX5) (N := 10) (k := 0) rfl cr_in5 (Or.inl (by decide)) ((cr_row_153 w) _) rfl (by decide) fl_X5_9 dX5_takeWinnings_51 ?_
        refine jr_iconst X.c (v := (1 : Int32)) dX5_takeWinnings_54 (by decide) ?_
        refine jr_iadd X.c dX5_takeWinnings_55 ?_
        obtain ⟨V56, eV56, h⟩ := cr_lt_s h
        refine jr_put X.c (ci := 5) (C := RX5) (T := TX5) (N := 10) (k := 0) rfl cr_in5 tyX5 tyX5_ok nmX5 (Or.inl (by decide)) (cr_row_153 w) rfl (Nat.le_of_ble_eq_true rfl) (by decide) rfl rfl rfl fl_X5_9 dX5_takeWinnings_56 eV56 ?_
        refine jr_aload_n X.c dX5_takeWinnings_59 rfl 1 rfl ?_
        refine jr_dup X.c dX5_takeWinnings_60 rfl ?_
        refine jr_get X.c (ci := 5) (C := RX5) (T := TX5) (N := 10) (k := 1) rfl cr_in5 (Or.inl (by decide)) ((cr_row_153 w) _) rfl (by decide) fl_X5_15 dX5_takeWinnings_61 ?_
        refine jr_aload X.c dX5_takeWinnings_64 0 rfl ?_
        refine jr_get X.c (ci := 2) (C := RX2) (T := TX2) (N := 9) (k := 3) rfl cr_in2 (cr_l_ma ha17) ((cr_row_ma w ha17) _) rfl (by decide) fl_X5_79 dX5_takeWinnings_66 ?_
        refine jr_iadd X.c dX5_takeWinnings_69 ?_
        obtain ⟨V70, eV70, h⟩ := cr_lt_s h
        refine jr_put X.c (ci := 5) (C := RX5) (T := TX5) (N := 10) (k := 1) rfl cr_in5 tyX5 tyX5_ok nmX5 (Or.inl (by decide)) (cr_row_153 w) rfl (Nat.le_of_ble_eq_true rfl) (by decide) rfl rfl rfl fl_X5_15 dX5_takeWinnings_70 eV70 ?_
        refine jr_iload_n X.c dX5_takeWinnings_73 rfl 4 rfl ?_
        refine jr_aload X.c dX5_takeWinnings_74 0 rfl ?_
        refine jr_get X.c (ci := 2) (C := RX2) (T := TX2) (N := 9) (k := 7) rfl cr_in2 (cr_l_ma ha17) ((cr_row_ma w ha17) _) rfl (by decide) fl_X5_141 dX5_takeWinnings_76 ?_
        refine jr_ior X.c dX5_takeWinnings_79 ?_
        obtain ⟨n80, en80, h⟩ := cr_lt_s h
        refine jr_top en80 ?_
        refine jr_istore_n X.c (lv2 := [(3, .int n80), (5, .ref (w.1 a17)), (0, .ref (w.1 153)), (1, .ref (w.1 p1)), (2, .int x2), (4, .int x4_5)]) dX5_takeWinnings_80 rfl (by decide) rfl ?_
        refine jr_iinc X.c (v := (x4_5 + (1 : Int32))) (lv2 := [(4, .int (x4_5 + (1 : Int32))), (3, .int n80), (5, .ref (w.1 a17)), (0, .ref (w.1 153)), (1, .ref (w.1 p1)), (2, .int x2)]) dX5_takeWinnings_81 5 rfl (by rfl) (by decide) rfl ?_
        refine jr_goto X.c 5 dX5_takeWinnings_84 (by decide) ?_
        cases h
        refine jr_sub [3, 4, 5, 1, 0] rfl ?_
        exact kl n80 (x4_5 + (1 : Int32)) V70 rfl
def f_X5_takeWinnings (p1 : Nat) (x2 : Int32) (V : cr_Hp) : Option (cr_Hp) :=
  cr_bd (cr_it (fun (q : Int32 × Int32 × cr_Hp) => f_X5_takeWinnings_l5 p1 x2 q.1 q.2.1 q.2.2) cr_FU ((0 : Int32), (0 : Int32), V)) (cr_u2 (fun (u3_5_87 : Int32) (V_e5_87 : cr_Hp) => cr_bd (f_X3_growRings p1 u3_5_87 V_e5_87) (fun (V89 : cr_Hp) => some V89)))
set_option maxRecDepth 100000 in
set_option maxHeartbeats 4000000 in
theorem t_X5_takeWinnings {p : Program} {l : Launch} {e : Env} {s : State} {m : MethodId} {args : Array Value} {below : List Frame} {meth : Method} {c : Code} {w : cr_Wd} (X : cr_Cx w RX5 (Cond.code yX5_takeWinnings cX5_takeWinnings 6 none) cX5_takeWinnings 6 p s m args meth c) (p1 : Nat) (x2 : Int32) (V : cr_Hp) (hp1 : cr_pg p1) (hr0 : meth.sig.returnType = none) (x : cr_Hp) (h : f_X5_takeWinnings p1 x2 V = some x) : cr_J w 6 p l e rm_X5_takeWinnings s m args below meth c 0 0 (MQ below (cr_Qv w x) args s 0 0 (cr_A w)) V 0 [(0, .ref (w.1 153)), (1, .ref (w.1 p1)), (2, .int x2)] [] := by
  unfold f_X5_takeWinnings at h
  refine jr_iconst X.c (v := (0 : Int32)) dX5_takeWinnings_0 (by decide) ?_
  refine jr_istore_n X.c (lv2 := [(3, .int (0 : Int32)), (0, .ref (w.1 153)), (1, .ref (w.1 p1)), (2, .int x2)]) dX5_takeWinnings_1 rfl (by decide) rfl ?_
  refine jr_iconst X.c (v := (0 : Int32)) dX5_takeWinnings_2 (by decide) ?_
  refine jr_istore X.c (lv2 := [(4, .int (0 : Int32)), (3, .int (0 : Int32)), (0, .ref (w.1 153)), (1, .ref (w.1 p1)), (2, .int x2)]) dX5_takeWinnings_3 (by decide) rfl ?_
  obtain ⟨e5, he5, h⟩ := cr_bd_s h
  have kx87 : ∀ (u3_5_87 : Int32) (V_e5_87 : cr_Hp), e5 = (u3_5_87, V_e5_87) → cr_J w 6 p l e rm_X5_takeWinnings s m args below meth c 0 0 (MQ below (cr_Qv w x) args s 0 0 (cr_A w)) V_e5_87 87 [(1, .ref (w.1 p1)), (3, .int u3_5_87)] [] := by
    intro u3_5_87 V_e5_87 qx
    rw [qx] at h
    rw [cr_u2_e] at h
    refine jr_aload_n X.c dX5_takeWinnings_87 rfl 0 rfl ?_
    refine jr_iload_n X.c dX5_takeWinnings_88 rfl 1 rfl ?_
    obtain ⟨V89, hr89, h⟩ := cr_bd_s h
    refine jc_Vv X.c (As := [.int u3_5_87]) (V1 := V89) (C := RX3) (T := TX3) (N := 10) (ci := 3) 1 (m_X3_growRings l w V_e5_87 p1 u3_5_87 hp1 V89 hr89) ⟨rfl, rfl⟩ ml_X5_144 im_X3_growRings sl_X3_growRings in_X3 cd_X3_growRings hd_X3_growRings ⟨Nat.le_of_ble_eq_true rfl, Nat.le_of_ble_eq_true rfl⟩ ⟨Nat.le_of_ble_eq_true rfl, Nat.le_of_ble_eq_true rfl⟩ rfl (Nat.le_of_ble_eq_true rfl) (cr_l_pg hp1) ((cr_row_pg w hp1) _) rfl rfl dX5_takeWinnings_89 ?_
    cases h
    exact jr_vret X.c hr0 dX5_takeWinnings_92
  refine jr_sub [2, 3, 4, 1, 0] rfl ?_
  refine cr_it_W (f := (fun (q : Int32 × Int32 × cr_Hp) => f_X5_takeWinnings_l5 p1 x2 q.1 q.2.1 q.2.2)) (P := fun (q : Int32 × Int32 × cr_Hp) => cr_J w 6 p l e rm_X5_takeWinnings s m args below meth c 0 0 (MQ below (cr_Qv w x) args s 0 0 (cr_A w)) q.2.2 5 [(0, .ref (w.1 153)), (1, .ref (w.1 p1)), (2, .int x2), (3, .int q.1), (4, .int q.2.1)] []) (K := fun z => z = e5) (fun q x hx kl kr => ?_) cr_FU ((0 : Int32), (0 : Int32), V) e5 he5 rfl
  obtain ⟨x3_5, x4_5, V_l5⟩ := q
  exact t_X5_takeWinnings_l5 X p1 x2 x3_5 x4_5 V_l5 hp1 x hx (fun x3_5 x4_5 V_l5 ez => kl _ ez) (fun u3_5_87 V_e5_87 ez => kx87 u3_5_87 V_e5_87 ((kr _ ez).symm))
set_option maxRecDepth 100000 in
set_option maxHeartbeats 4000000 in
theorem m_X5_takeWinnings (l : Launch) (w : cr_Wd) (V : cr_Hp) (p1 : Nat) (x2 : Int32) (hp1 : cr_pg p1) (x : cr_Hp) (h : f_X5_takeWinnings p1 x2 V = some x) : Met l yX5_takeWinnings (cr_wds yX5_takeWinnings cX5_takeWinnings 6 none) rm_X5_takeWinnings (cr_Pc w V [.ref (w.1 153), .ref (w.1 p1), .int x2]) (cr_Qv w x) 0 0 (cr_A w) := by
  refine cr_met (own := RX5) (lv := [(0, .ref (w.1 153)), (1, .ref (w.1 p1)), (2, .int x2)]) (by decide +kernel) rfl (Nat.le_of_ble_eq_true rfl) rfl (fun p e s m args below meth c X hr0 => ?_)
  exact t_X5_takeWinnings X p1 x2 V hp1 hr0 x h
