abbrev rm_X7_isPoint : Room := { frames := 0, cells := 0, slots := 0, locals := 0 }
theorem hd_X7_isPoint : yX7_isPoint.cls ≠ "java/lang/invoke/MethodHandle" ∧ yX7_isPoint.cls ≠ "java/lang/invoke/VarHandle" ∧ (parseMethodDescriptor yX7_isPoint.desc).map (fun d => d.parameters.length) = some 2 := by decide +kernel
def f_X7_isPoint (x0 : Int32) (x1 : Int32) : Option (Int32) :=
  if x0 < 0 then (some (0 : Int32)) else (if (30 : Int32) < x0 then (some (0 : Int32)) else (if x1 < 0 then (some (0 : Int32)) else (if (30 : Int32) < x1 then (some (0 : Int32)) else (some (1 : Int32)))))
set_option maxRecDepth 100000 in
set_option maxHeartbeats 4000000 in
theorem t_X7_isPoint {p : Program} {l : Launch} {e : Env} {s : State} {m : MethodId} {args : Array Value} {below : List Frame} {meth : Method} {c : Code} {w : cr_Wd} (X : cr_Cx w RX7 (Cond.code yX7_isPoint cX7_isPoint 2 (some .boolean)) cX7_isPoint 2 p s m args meth c) (x0 : Int32) (x1 : Int32) (V : cr_Hp)  (hr0 : meth.sig.returnType = (some .boolean)) (x : Int32) (h : f_X7_isPoint x0 x1 = some x) : cr_J w 2 p l e rm_X7_isPoint s m args below meth c 0 0 (MQ below (cr_Qi w V x) args s 0 0 (cr_A w)) V 0 [(0, .int x0), (1, .int x1)] [] := by
  unfold f_X7_isPoint at h
  refine jr_iload_n X.c dX7_isPoint_0 rfl 0 rfl ?_
  refine jr_if_lt X.c 24 dX7_isPoint_1 (by decide) (fun q1 => ?_) (fun q1 => ?_)
  · replace h := cr_if_t q1 h
    refine jr_iconst X.c (v := (0 : Int32)) dX7_isPoint_24 (by decide) ?_
    cases h
    exact jr_zret X.c (r := (0 : Int32)) hr0 (by decide) dX7_isPoint_25
  · replace h := cr_if_f q1 h
    refine jr_iload_n X.c dX7_isPoint_4 rfl 0 rfl ?_
    refine jr_bipush X.c (v := (30 : Int32)) dX7_isPoint_5 (by decide) ?_
    refine jr_icmp_gt X.c 24 dX7_isPoint_7 (by decide) (fun q7 => ?_) (fun q7 => ?_)
    · replace h := cr_if_t q7 h
      refine jr_iconst X.c (v := (0 : Int32)) dX7_isPoint_24 (by decide) ?_
      cases h
      exact jr_zret X.c (r := (0 : Int32)) hr0 (by decide) dX7_isPoint_25
    · replace h := cr_if_f q7 h
      refine jr_iload_n X.c dX7_isPoint_10 rfl 1 rfl ?_
      refine jr_if_lt X.c 24 dX7_isPoint_11 (by decide) (fun q11 => ?_) (fun q11 => ?_)
      · replace h := cr_if_t q11 h
        refine jr_iconst X.c (v := (0 : Int32)) dX7_isPoint_24 (by decide) ?_
        cases h
        exact jr_zret X.c (r := (0 : Int32)) hr0 (by decide) dX7_isPoint_25
      · replace h := cr_if_f q11 h
        refine jr_iload_n X.c dX7_isPoint_14 rfl 1 rfl ?_
        refine jr_bipush X.c (v := (30 : Int32)) dX7_isPoint_15 (by decide) ?_
        refine jr_icmp_gt X.c 24 dX7_isPoint_17 (by decide) (fun q17 => ?_) (fun q17 => ?_)
        · replace h := cr_if_t q17 h
          refine jr_iconst X.c (v := (0 : Int32)) dX7_isPoint_24 (by decide) ?_
          cases h
          exact jr_zret X.c (r := (0 : Int32)) hr0 (by decide) dX7_isPoint_25
        · replace h := cr_if_f q17 h
          refine jr_iconst X.c (v := (1 : Int32)) dX7_isPoint_20 (by decide) ?_
          refine jr_goto X.c 25 dX7_isPoint_21 (by decide) ?_
          cases h
          exact jr_zret X.c (r := (1 : Int32)) hr0 (by decide) dX7_isPoint_25
set_option maxRecDepth 100000 in
set_option maxHeartbeats 4000000 in
theorem m_X7_isPoint (l : Launch) (w : cr_Wd) (V : cr_Hp) (x0 : Int32) (x1 : Int32)  (x : Int32) (h : f_X7_isPoint x0 x1 = some x) : Met l yX7_isPoint (cr_wds yX7_isPoint cX7_isPoint 2 (some .boolean)) rm_X7_isPoint (cr_Pc w V [.int x0, .int x1]) (cr_Qi w V x) 0 0 (cr_A w) := by
  refine cr_met (own := RX7) (lv := [(0, .int x0), (1, .int x1)]) (by decide +kernel) rfl (Nat.le_of_ble_eq_true rfl) rfl (fun p e s m args below meth c X hr0 => ?_)
  exact t_X7_isPoint X x0 x1 V  hr0 x h
abbrev rm_X7_isPlayer : Room := { frames := 0, cells := 0, slots := 0, locals := 0 }
theorem hd_X7_isPlayer : yX7_isPlayer.cls ≠ "java/lang/invoke/MethodHandle" ∧ yX7_isPlayer.cls ≠ "java/lang/invoke/VarHandle" ∧ (parseMethodDescriptor yX7_isPlayer.desc).map (fun d => d.parameters.length) = some 1 := by decide +kernel
def f_X7_isPlayer (x0 : Int32) : Option (Int32) :=
  if x0 < 0 then (some (0 : Int32)) else (if (3 : Int32) ≤ x0 then (some (0 : Int32)) else (some (1 : Int32)))
set_option maxRecDepth 100000 in
set_option maxHeartbeats 4000000 in
theorem t_X7_isPlayer {p : Program} {l : Launch} {e : Env} {s : State} {m : MethodId} {args : Array Value} {below : List Frame} {meth : Method} {c : Code} {w : cr_Wd} (X : cr_Cx w RX7 (Cond.code yX7_isPlayer cX7_isPlayer 1 (some .boolean)) cX7_isPlayer 1 p s m args meth c) (x0 : Int32) (V : cr_Hp)  (hr0 : meth.sig.returnType = (some .boolean)) (x : Int32) (h : f_X7_isPlayer x0 = some x) : cr_J w 1 p l e rm_X7_isPlayer s m args below meth c 0 0 (MQ below (cr_Qi w V x) args s 0 0 (cr_A w)) V 0 [(0, .int x0)] [] := by
  unfold f_X7_isPlayer at h
  refine jr_iload_n X.c dX7_isPlayer_0 rfl 0 rfl ?_
  refine jr_if_lt X.c 13 dX7_isPlayer_1 (by decide) (fun q1 => ?_) (fun q1 => ?_)
  · replace h := cr_if_t q1 h
    refine jr_iconst X.c (v := (0 : Int32)) dX7_isPlayer_13 (by decide) ?_
    cases h
    exact jr_zret X.c (r := (0 : Int32)) hr0 (by decide) dX7_isPlayer_14
  · replace h := cr_if_f q1 h
    refine jr_iload_n X.c dX7_isPlayer_4 rfl 0 rfl ?_
    refine jr_iconst X.c (v := (3 : Int32)) dX7_isPlayer_5 (by decide) ?_
    refine jr_icmp_ge X.c 13 dX7_isPlayer_6 (by decide) (fun q6 => ?_) (fun q6 => ?_)
    · replace h := cr_if_t q6 h
      refine jr_iconst X.c (v := (0 : Int32)) dX7_isPlayer_13 (by decide) ?_
      cases h
      exact jr_zret X.c (r := (0 : Int32)) hr0 (by decide) dX7_isPlayer_14
    · replace h := cr_if_f q6 h
      refine jr_iconst X.c (v := (1 : Int32)) dX7_isPlayer_9 (by decide) ?_
      refine jr_goto X.c 14 dX7_isPlayer_10 (by decide) ?_
      cases h
      exact jr_zret X.c (r := (1 : Int32)) hr0 (by decide) dX7_isPlayer_14
set_option maxRecDepth 100000 in
set_option maxHeartbeats 4000000 in
theorem m_X7_isPlayer (l : Launch) (w : cr_Wd) (V : cr_Hp) (x0 : Int32)  (x : Int32) (h : f_X7_isPlayer x0 = some x) : Met l yX7_isPlayer (cr_wds yX7_isPlayer cX7_isPlayer 1 (some .boolean)) rm_X7_isPlayer (cr_Pc w V [.int x0]) (cr_Qi w V x) 0 0 (cr_A w) := by
  refine cr_met (own := RX7) (lv := [(0, .int x0)]) (by decide +kernel) rfl (Nat.le_of_ble_eq_true rfl) rfl (fun p e s m args below meth c X hr0 => ?_)
  exact t_X7_isPlayer X x0 V  hr0 x h
abbrev rm_X3_marbleOn : Room := { frames := 0, cells := 0, slots := 0, locals := 0 }
theorem hd_X3_marbleOn : yX3_marbleOn.cls = RX3 ∧ yX3_marbleOn.cls ≠ "java/lang/invoke/MethodHandle" ∧ yX3_marbleOn.cls ≠ "java/lang/invoke/VarHandle" ∧ (parseMethodDescriptor yX3_marbleOn.desc).map (fun d => d.parameters.length) = some 2 := by decide +kernel
def f_X3_marbleOn_l12 (a0 : Nat) (x1 : Int32) (x2 : Int32) (x5_12 : Int32) (V : cr_Hp) : Option (Int32 ⊕ (Nat ⊕ Unit)) :=
  if (12 : Int32) ≤ x5_12 then (some (.inr (.inr ()))) else (cr_gd (cr_ix x5_12 12) (if (V ((a0 + 1) + 2 + x5_12.toNatClampNeg) 6) = 0 then (some (.inl (x5_12 + (1 : Int32)))) else (if (V ((a0 + 1) + 2 + x5_12.toNatClampNeg) 1) = x1 then (if (V ((a0 + 1) + 2 + x5_12.toNatClampNeg) 2) = x2 then (some (.inr (.inl ((a0 + 1) + 2 + x5_12.toNatClampNeg)))) else (some (.inl (x5_12 + (1 : Int32))))) else (some (.inl (x5_12 + (1 : Int32)))))))
set_option maxRecDepth 100000 in
set_option maxHeartbeats 4000000 in
theorem t_X3_marbleOn_l12 {p : Program} {l : Launch} {e : Env} {s : State} {m : MethodId} {args : Array Value} {below : List Frame} {meth : Method} {c : Code} {w : cr_Wd} {Q : State → Prop} (X : cr_Cx w RX3 (Cond.code yX3_marbleOn cX3_marbleOn 7 (some (.object "ChalkRings$Marble"))) cX3_marbleOn 7 p s m args meth c) (a0 : Nat) (x1 : Int32) (x2 : Int32) (x5_12 : Int32) (V : cr_Hp) (ha0 : cr_pg a0) (x : Int32 ⊕ (Nat ⊕ Unit)) (h : f_X3_marbleOn_l12 a0 x1 x2 x5_12 V = some x) (kl : ∀ (x5_12 : Int32), x = .inl x5_12 → cr_J w 7 p l e rm_X3_marbleOn s m args below meth c 0 0 Q V 12 [(1, .int x1), (2, .int x2), (3, .ref (w.1 (a0 + 1))), (4, .int (12 : Int32)), (5, .int x5_12)] []) (kr56 : ∀ (u6_12_56 : Nat), x = .inr (.inl u6_12_56) → cr_J w 7 p l e rm_X3_marbleOn s m args below meth c 0 0 Q V 56 [(6, .ref (w.1 u6_12_56))] []) (kr65 : x = .inr (.inr ()) → cr_J w 7 p l e rm_X3_marbleOn s m args below meth c 0 0 Q V 65 [] []) : cr_J w 7 p l e rm_X3_marbleOn s m args below meth c 0 0 Q V 12 [(1, .int x1), (2, .int x2), (3, .ref (w.1 (a0 + 1))), (4, .int (12 : Int32)), (5, .int x5_12)] [] := by
  unfold f_X3_marbleOn_l12 at h
  refine jr_iload X.c dX3_marbleOn_12 4 rfl ?_
  refine jr_iload X.c dX3_marbleOn_14 3 rfl ?_
  refine jr_icmp_ge X.c 65 dX3_marbleOn_16 (by decide) (fun q16 => ?_) (fun q16 => ?_)
  · replace h := cr_if_t q16 h
    cases h
    refine jr_sub [] rfl ?_
    exact kr65  rfl
  · replace h := cr_if_f q16 h
    refine jr_aload_n X.c dX3_marbleOn_19 rfl 2 rfl ?_
    refine jr_iload X.c dX3_marbleOn_20 4 rfl ?_
    obtain ⟨hi22, h⟩ := cr_gd_s h
    refine jr_aald X.c (f := (fun j => (a0 + 1) + 2 + j)) 2 rfl (cr_l_ms (cr_pg_ms ha0)) ((cr_row_ms w (cr_pg_ms ha0)) _) hi22 dX3_marbleOn_22 ?_
    refine jr_astore X.c (lv2 := [(6, .ref (w.1 ((a0 + 1) + 2 + x5_12.toNatClampNeg))), (1, .int x1), (2, .int x2), (3, .ref (w.1 (a0 + 1))), (4, .int (12 : Int32)), (5, .int x5_12)]) dX3_marbleOn_23 (by decide) rfl ?_
    refine jr_aload X.c dX3_marbleOn_25 0 rfl ?_
    refine jr_ifnullR X.c dX3_marbleOn_27 ?_
    refine jr_aload X.c dX3_marbleOn_30 0 rfl ?_
    refine jr_get X.c (ci := 2) (C := RX2) (T := TX2) (N := 9) (k := 6) rfl cr_in2 (cr_l_ma (cr_ms_ma (cr_pg_ms ha0) (cr_ix_lt hi22))) ((cr_row_ma w (cr_ms_ma (cr_pg_ms ha0) (cr_ix_lt hi22))) _) rfl (by decide) fl_X3_59 dX3_marbleOn_32 ?_
    refine jr_if_eq X.c 59 dX3_marbleOn_35 (by decide) (fun q35 => ?_) (fun q35 => ?_)
    · replace h := cr_if_t q35 h
      refine jr_iinc X.c (v := (x5_12 + (1 : Int32))) (lv2 := [(5, .int (x5_12 + (1 : Int32))), (6, .ref (w.1 ((a0 + 1) + 2 + x5_12.toNatClampNeg))), (1, .int x1), (2, .int x2), (3, .ref (w.1 (a0 + 1))), (4, .int (12 : Int32))]) dX3_marbleOn_59 5 rfl (by rfl) (by decide) rfl ?_
      refine jr_goto X.c 12 dX3_marbleOn_62 (by decide) ?_
      cases h
      refine jr_sub [2, 3, 4, 5, 0] rfl ?_
      exact kl (x5_12 + (1 : Int32)) rfl
    · replace h := cr_if_f q35 h
      refine jr_aload X.c dX3_marbleOn_38 0 rfl ?_
      refine jr_get X.c (ci := 2) (C := RX2) (T := TX2) (N := 9) (k := 1) rfl cr_in2 (cr_l_ma (cr_ms_ma (cr_pg_ms ha0) (cr_ix_lt hi22))) ((cr_row_ma w (cr_ms_ma (cr_pg_ms ha0) (cr_ix_lt hi22))) _) rfl (by decide) fl_X3_81 dX3_marbleOn_40 ?_
      refine jr_iload_n X.c dX3_marbleOn_43 rfl 1 rfl ?_
      refine jr_icmp_ne X.c 59 dX3_marbleOn_44 (by decide) (fun q44 => ?_) (fun q44 => ?_)
      · replace h := cr_if_f q44 h
        refine jr_iinc X.c (v := (x5_12 + (1 : Int32))) (lv2 := [(5, .int (x5_12 + (1 : Int32))), (6, .ref (w.1 ((a0 + 1) + 2 + x5_12.toNatClampNeg))), (1, .int x1), (2, .int x2), (3, .ref (w.1 (a0 + 1))), (4, .int (12 : Int32))]) dX3_marbleOn_59 5 rfl (by rfl) (by decide) rfl ?_
        refine jr_goto X.c 12 dX3_marbleOn_62 (by decide) ?_
        cases h
        refine jr_sub [2, 3, 4, 5, 0] rfl ?_
        exact kl (x5_12 + (1 : Int32)) rfl
      · replace h := cr_if_t q44 h
        refine jr_aload X.c dX3_marbleOn_47 0 rfl ?_
        refine jr_get X.c (ci := 2) (C := RX2) (T := TX2) (N := 9) (k := 2) rfl cr_in2 (cr_l_ma (cr_ms_ma (cr_pg_ms ha0) (cr_ix_lt hi22))) ((cr_row_ma w (cr_ms_ma (cr_pg_ms ha0) (cr_ix_lt hi22))) _) rfl (by decide) fl_X3_84 dX3_marbleOn_49 ?_
        refine jr_iload_n X.c dX3_marbleOn_52 rfl 2 rfl ?_
        refine jr_icmp_ne X.c 59 dX3_marbleOn_53 (by decide) (fun q53 => ?_) (fun q53 => ?_)
        · replace h := cr_if_f q53 h
          refine jr_iinc X.c (v := (x5_12 + (1 : Int32))) (lv2 := [(5, .int (x5_12 + (1 : Int32))), (6, .ref (w.1 ((a0 + 1) + 2 + x5_12.toNatClampNeg))), (1, .int x1), (2, .int x2), (3, .ref (w.1 (a0 + 1))), (4, .int (12 : Int32))]) dX3_marbleOn_59 5 rfl (by rfl) (by decide) rfl ?_
          refine jr_goto X.c 12 dX3_marbleOn_62 (by decide) ?_
          cases h
          refine jr_sub [2, 3, 4, 5, 0] rfl ?_
          exact kl (x5_12 + (1 : Int32)) rfl
        · replace h := cr_if_t q53 h
          cases h
          refine jr_sub [0] rfl ?_
          exact kr56 ((a0 + 1) + 2 + x5_12.toNatClampNeg) rfl
def f_X3_marbleOn (a0 : Nat) (x1 : Int32) (x2 : Int32) (V : cr_Hp) : Option (Option Nat) :=
  cr_bd (cr_it (fun (q : Int32) => f_X3_marbleOn_l12 a0 x1 x2 q V) cr_FU (0 : Int32)) (cr_sm (fun (u6_12_56 : Nat) => cr_gd (cr_ma u6_12_56) (some (some u6_12_56))) (fun (_ : Unit) => some none))
set_option maxRecDepth 100000 in
set_option maxHeartbeats 4000000 in
theorem t_X3_marbleOn {p : Program} {l : Launch} {e : Env} {s : State} {m : MethodId} {args : Array Value} {below : List Frame} {meth : Method} {c : Code} {w : cr_Wd} (X : cr_Cx w RX3 (Cond.code yX3_marbleOn cX3_marbleOn 7 (some (.object "ChalkRings$Marble"))) cX3_marbleOn 7 p s m args meth c) (a0 : Nat) (x1 : Int32) (x2 : Int32) (V : cr_Hp) (ha0 : cr_pg a0) (hr0 : meth.sig.returnType = (some (.object "ChalkRings$Marble"))) (x : Option Nat) (h : f_X3_marbleOn a0 x1 x2 V = some x) : cr_J w 7 p l e rm_X3_marbleOn s m args below meth c 0 0 (MQ below (cr_Qe w V x) args s 0 0 (cr_A w)) V 0 [(0, .ref (w.1 a0)), (1, .int x1), (2, .int x2)] [] := by
  unfold f_X3_marbleOn at h
  refine jr_aload_n X.c dX3_marbleOn_0 rfl 0 rfl ?_
  refine jr_get X.c (ci := 3) (C := RX3) (T := TX3) (N := 10) (k := 0) rfl cr_in3 (cr_l_pg ha0) ((cr_row_pg w ha0) _) rfl (by decide) fl_X3_11 dX3_marbleOn_1 ?_
  refine jr_astore_n X.c (lv2 := [(3, .ref (w.1 (a0 + 1))), (0, .ref (w.1 a0)), (1, .int x1), (2, .int x2)]) dX3_marbleOn_4 rfl (by decide) rfl ?_
  refine jr_aload_n X.c dX3_marbleOn_5 rfl 0 rfl ?_
  refine jr_alen X.c (v := (12 : Int32)) 2 rfl (cr_l_ms (cr_pg_ms ha0)) ((cr_row_ms w (cr_pg_ms ha0)) _) rfl dX3_marbleOn_6 ?_
  refine jr_istore X.c (lv2 := [(4, .int (12 : Int32)), (3, .ref (w.1 (a0 + 1))), (0, .ref (w.1 a0)), (1, .int x1), (2, .int x2)]) dX3_marbleOn_7 (by decide) rfl ?_
  refine jr_iconst X.c (v := (0 : Int32)) dX3_marbleOn_9 (by decide) ?_
  refine jr_istore X.c (lv2 := [(5, .int (0 : Int32)), (4, .int (12 : Int32)), (3, .ref (w.1 (a0 + 1))), (0, .ref (w.1 a0)), (1, .int x1), (2, .int x2)]) dX3_marbleOn_10 (by decide) rfl ?_
  obtain ⟨e12, he12, h⟩ := cr_bd_s h
  have kx56 : ∀ (u6_12_56 : Nat), e12 = (.inl u6_12_56) → cr_J w 7 p l e rm_X3_marbleOn s m args below meth c 0 0 (MQ below (cr_Qe w V x) args s 0 0 (cr_A w)) V 56 [(6, .ref (w.1 u6_12_56))] [] := by
    intro u6_12_56 qx
    rw [qx] at h
    rw [cr_sl_e] at h
    obtain ⟨hu6_12_56, h⟩ := cr_gd_s h
    refine jr_aload X.c dX3_marbleOn_56 0 rfl ?_
    cases h
    exact jr_aret X.c (r := (some u6_12_56)) hr0 dX3_marbleOn_58 rfl
  have kx65 : e12 = (.inr ()) → cr_J w 7 p l e rm_X3_marbleOn s m args below meth c 0 0 (MQ below (cr_Qe w V x) args s 0 0 (cr_A w)) V 65 [] [] := by
    intro  qx
    rw [qx] at h
    rw [cr_sr_e] at h
    refine jr_null X.c dX3_marbleOn_65 ?_
    cases h
    exact jr_aret X.c (r := none) hr0 dX3_marbleOn_66 rfl
  refine jr_sub [4, 5, 2, 1, 0] rfl ?_
  refine cr_it_W (f := (fun (q : Int32) => f_X3_marbleOn_l12 a0 x1 x2 q V)) (P := fun (q : Int32) => cr_J w 7 p l e rm_X3_marbleOn s m args below meth c 0 0 (MQ below (cr_Qe w V x) args s 0 0 (cr_A w)) V 12 [(1, .int x1), (2, .int x2), (3, .ref (w.1 (a0 + 1))), (4, .int (12 : Int32)), (5, .int q)] []) (K := fun z => z = e12) (fun q x hx kl kr => ?_) cr_FU (0 : Int32) e12 he12 rfl
  obtain ⟨x5_12, rfl⟩ : ∃ z, z = q := ⟨q, rfl⟩
  exact t_X3_marbleOn_l12 X a0 x1 x2 x5_12 V ha0 x hx (fun x5_12 ez => kl _ ez) (fun u6_12_56 ez => kx56 u6_12_56 ((kr _ ez).symm)) (fun ez => kx65 ((kr _ ez).symm))
set_option maxRecDepth 100000 in
set_option maxHeartbeats 4000000 in
theorem m_X3_marbleOn (l : Launch) (w : cr_Wd) (V : cr_Hp) (a0 : Nat) (x1 : Int32) (x2 : Int32) (ha0 : cr_pg a0) (x : Option Nat) (h : f_X3_marbleOn a0 x1 x2 V = some x) : Met l yX3_marbleOn (cr_wds yX3_marbleOn cX3_marbleOn 7 (some (.object "ChalkRings$Marble"))) rm_X3_marbleOn (cr_Pc w V [.ref (w.1 a0), .int x1, .int x2]) (cr_Qe w V x) 0 0 (cr_A w) := by
  refine cr_met (own := RX3) (lv := [(0, .ref (w.1 a0)), (1, .int x1), (2, .int x2)]) (by decide +kernel) rfl (Nat.le_of_ble_eq_true rfl) rfl (fun p e s m args below meth c X hr0 => ?_)
  exact t_X3_marbleOn X a0 x1 x2 V ha0 hr0 x h
abbrev rm_X3_refusalOfMarble : Room := { frames := 1, cells := 0, slots := 0, locals := 26 }
theorem hd_X3_refusalOfMarble : yX3_refusalOfMarble.cls = RX3 ∧ yX3_refusalOfMarble.cls ≠ "java/lang/invoke/MethodHandle" ∧ yX3_refusalOfMarble.cls ≠ "java/lang/invoke/VarHandle" ∧ (parseMethodDescriptor yX3_refusalOfMarble.desc).map (fun d => d.parameters.length) = some 4 := by decide +kernel
def f_X3_refusalOfMarble (a0 : Nat) (x1 : Int32) (x2 : Int32) (x3 : Int32) (x4 : Int32) (V : cr_Hp) : Option (Int32) :=
  cr_bd (f_X7_isPoint x1 x2) (fun (r2 : Int32) => if r2 = 0 then (some (-1001 : Int32)) else (cr_bd (f_X7_isPlayer x4) (fun (r10 : Int32) => if r10 = 0 then (some (-1001 : Int32)) else (if x3 < (1 : Int32) then (some (-1002 : Int32)) else (if x3 ≤ (3 : Int32) then (cr_bd (f_X3_marbleOn a0 x1 x2 V) (fun (r37 : Option Nat) => cr_on r37 (if (V a0 2) < (12 : Int32) then (some (0 : Int32)) else (some (-1004 : Int32))) (fun (a37 : Nat) => cr_gd (cr_ma a37) (some (-1003 : Int32))))) else (some (-1002 : Int32)))))))
set_option maxRecDepth 100000 in
set_option maxHeartbeats 4000000 in
theorem t_X3_refusalOfMarble {p : Program} {l : Launch} {e : Env} {s : State} {m : MethodId} {args : Array Value} {below : List Frame} {meth : Method} {c : Code} {w : cr_Wd} (X : cr_Cx w RX3 (Cond.code yX3_refusalOfMarble cX3_refusalOfMarble 5 (some .int)) cX3_refusalOfMarble 5 p s m args meth c) (a0 : Nat) (x1 : Int32) (x2 : Int32) (x3 : Int32) (x4 : Int32) (V : cr_Hp) (ha0 : cr_pg a0) (hr0 : meth.sig.returnType = (some .int)) (x : Int32) (h : f_X3_refusalOfMarble a0 x1 x2 x3 x4 V = some x) : cr_J w 5 p l e rm_X3_refusalOfMarble s m args below meth c 0 0 (MQ below (cr_Qi w V x) args s 0 0 (cr_A w)) V 0 [(0, .ref (w.1 a0)), (1, .int x1), (2, .int x2), (3, .int x3), (4, .int x4)] [] := by
  unfold f_X3_refusalOfMarble at h
  refine jr_iload_n X.c dX3_refusalOfMarble_0 rfl 1 rfl ?_
  refine jr_iload_n X.c dX3_refusalOfMarble_1 rfl 2 rfl ?_
  obtain ⟨r2, hr2, h⟩ := cr_bd_s h
  refine jc_Ni X.c (As := [.int x1, .int x2]) (V1 := V) (host := "ChalkRings") 2 (m_X7_isPoint l w V x1 x2  r2 hr2) ⟨rfl, rfl⟩ (by decide) st_X7_isPoint in_X7 cd_X7_isPoint hd_X7_isPoint ⟨Nat.le_of_ble_eq_true rfl, Nat.le_of_ble_eq_true rfl⟩ ⟨Nat.le_of_ble_eq_true rfl, Nat.le_of_ble_eq_true rfl⟩ rfl (Nat.le_of_ble_eq_true rfl) rfl dX3_refusalOfMarble_2 ?_
  refine jr_if_eq X.c 16 dX3_refusalOfMarble_5 (by decide) (fun q5 => ?_) (fun q5 => ?_)
  · replace h := cr_if_t q5 h
    refine jr_sipush X.c (v := (-1001 : Int32)) dX3_refusalOfMarble_16 (by decide) ?_
    cases h
    exact jr_iret X.c hr0 dX3_refusalOfMarble_19
  · replace h := cr_if_f q5 h
    refine jr_iload X.c dX3_refusalOfMarble_8 4 rfl ?_
    obtain ⟨r10, hr10, h⟩ := cr_bd_s h
    refine jc_Ni X.c (As := [.int x4]) (V1 := V) (host := "ChalkRings") 1 (m_X7_isPlayer l w V x4  r10 hr10) ⟨rfl, rfl⟩ (by decide) st_X7_isPlayer in_X7 cd_X7_isPlayer hd_X7_isPlayer ⟨Nat.le_of_ble_eq_true rfl, Nat.le_of_ble_eq_true rfl⟩ ⟨Nat.le_of_ble_eq_true rfl, Nat.le_of_ble_eq_true rfl⟩ rfl (Nat.le_of_ble_eq_true rfl) rfl dX3_refusalOfMarble_10 ?_
    refine jr_if_ne X.c 20 dX3_refusalOfMarble_13 (by decide) (fun q13 => ?_) (fun q13 => ?_)
    · replace h := cr_if_f q13 h
      refine jr_iload_n X.c dX3_refusalOfMarble_20 rfl 3 rfl ?_
      refine jr_iconst X.c (v := (1 : Int32)) dX3_refusalOfMarble_21 (by decide) ?_
      refine jr_icmp_lt X.c 30 dX3_refusalOfMarble_22 (by decide) (fun q22 => ?_) (fun q22 => ?_)
      · replace h := cr_if_t q22 h
        refine jr_sipush X.c (v := (-1002 : Int32)) dX3_refusalOfMarble_30 (by decide) ?_
        cases h
        exact jr_iret X.c hr0 dX3_refusalOfMarble_33
      · replace h := cr_if_f q22 h
        refine jr_iload_n X.c dX3_refusalOfMarble_25 rfl 3 rfl ?_
        refine jr_iconst X.c (v := (3 : Int32)) dX3_refusalOfMarble_26 (by decide) ?_
        refine jr_icmp_le X.c 34 dX3_refusalOfMarble_27 (by decide) (fun q27 => ?_) (fun q27 => ?_)
        · replace h := cr_if_t q27 h
          refine jr_aload_n X.c dX3_refusalOfMarble_34 rfl 0 rfl ?_
          refine jr_iload_n X.c dX3_refusalOfMarble_35 rfl 1 rfl ?_
          refine jr_iload_n X.c dX3_refusalOfMarble_36 rfl 2 rfl ?_
          obtain ⟨r37, hr37, h⟩ := cr_bd_s h
          refine jc_Ve X.c (As := [.int x1, .int x2]) (V1 := V) (C := RX3) (T := TX3) (N := 10) (ci := 3) 2 (m_X3_marbleOn l w V a0 x1 x2 ha0 r37 hr37) ⟨rfl, rfl⟩ ml_X3_77 im_X3_marbleOn sl_X3_marbleOn in_X3 cd_X3_marbleOn hd_X3_marbleOn ⟨Nat.le_of_ble_eq_true rfl, Nat.le_of_ble_eq_true rfl⟩ ⟨Nat.le_of_ble_eq_true rfl, Nat.le_of_ble_eq_true rfl⟩ rfl (Nat.le_of_ble_eq_true rfl) (cr_l_pg ha0) ((cr_row_pg w ha0) _) rfl rfl dX3_refusalOfMarble_37 (fun eq37 => ?_) (fun a37 eq37 => ?_)
          · subst eq37
            replace h := cr_on_n h
            refine jr_ifnullN X.c 47 dX3_refusalOfMarble_40 (by decide) ?_
            refine jr_aload_n X.c dX3_refusalOfMarble_47 rfl 0 rfl ?_
            refine jr_get X.c (ci := 3) (C := RX3) (T := TX3) (N := 10) (k := 2) rfl cr_in3 (cr_l_pg ha0) ((cr_row_pg w ha0) _) rfl (by decide) fl_X3_34 dX3_refusalOfMarble_48 ?_
            refine jr_bipush X.c (v := (12 : Int32)) dX3_refusalOfMarble_51 (by decide) ?_
            refine jr_icmp_lt X.c 62 dX3_refusalOfMarble_53 (by decide) (fun q53 => ?_) (fun q53 => ?_)
            · replace h := cr_if_t q53 h
              refine jr_iconst X.c (v := (0 : Int32)) dX3_refusalOfMarble_62 (by decide) ?_
              cases h
              exact jr_iret X.c hr0 dX3_refusalOfMarble_63
            · replace h := cr_if_f q53 h
              refine jr_sipush X.c (v := (-1004 : Int32)) dX3_refusalOfMarble_56 (by decide) ?_
              refine jr_goto X.c 63 dX3_refusalOfMarble_59 (by decide) ?_
              cases h
              exact jr_iret X.c hr0 dX3_refusalOfMarble_63
          · subst eq37
            replace h := cr_on_s h
            obtain ⟨ha37, h⟩ := cr_gd_s h
            refine jr_ifnullR X.c dX3_refusalOfMarble_40 ?_
            refine jr_sipush X.c (v := (-1003 : Int32)) dX3_refusalOfMarble_43 (by decide) ?_
            cases h
            exact jr_iret X.c hr0 dX3_refusalOfMarble_46
        · replace h := cr_if_f q27 h
          refine jr_sipush X.c (v := (-1002 : Int32)) dX3_refusalOfMarble_30 (by decide) ?_
          cases h
          exact jr_iret X.c hr0 dX3_refusalOfMarble_33
    · replace h := cr_if_t q13 h
      refine jr_sipush X.c (v := (-1001 : Int32)) dX3_refusalOfMarble_16 (by decide) ?_
      cases h
      exact jr_iret X.c hr0 dX3_refusalOfMarble_19
set_option maxRecDepth 100000 in
set_option maxHeartbeats 4000000 in
theorem m_X3_refusalOfMarble (l : Launch) (w : cr_Wd) (V : cr_Hp) (a0 : Nat) (x1 : Int32) (x2 : Int32) (x3 : Int32) (x4 : Int32) (ha0 : cr_pg a0) (x : Int32) (h : f_X3_refusalOfMarble a0 x1 x2 x3 x4 V = some x) : Met l yX3_refusalOfMarble (cr_wds yX3_refusalOfMarble cX3_refusalOfMarble 5 (some .int)) rm_X3_refusalOfMarble (cr_Pc w V [.ref (w.1 a0), .int x1, .int x2, .int x3, .int x4]) (cr_Qi w V x) 0 0 (cr_A w) := by
  refine cr_met (own := RX3) (lv := [(0, .ref (w.1 a0)), (1, .int x1), (2, .int x2), (3, .int x3), (4, .int x4)]) (by decide +kernel) rfl (Nat.le_of_ble_eq_true rfl) rfl (fun p e s m args below meth c X hr0 => ?_)
  exact t_X3_refusalOfMarble X a0 x1 x2 x3 x4 V ha0 hr0 x h
abbrev rm_X0_slotOf : Room := { frames := 0, cells := 0, slots := 0, locals := 0 }
theorem hd_X0_slotOf : yX0_slotOf.cls = RX0 ∧ yX0_slotOf.cls ≠ "java/lang/invoke/MethodHandle" ∧ yX0_slotOf.cls ≠ "java/lang/invoke/VarHandle" ∧ (parseMethodDescriptor yX0_slotOf.desc).map (fun d => d.parameters.length) = some 1 := by decide +kernel
def f_X0_slotOf (x1 : Int32) (V : cr_Hp) : Option (Option Nat) :=
  cr_lt ((((V 154 1) + x1) - ((V 154 1) + x1) / (6 : Int32) * (6 : Int32))) (fun (n9 : Int32) => if n9 < 0 then (some none) else (if n9 < (6 : Int32) then (cr_gd (cr_ix n9 6) (some (some (38 + 19 * n9.toNatClampNeg)))) else (some none)))
set_option maxRecDepth 100000 in
set_option maxHeartbeats 4000000 in
theorem t_X0_slotOf {p : Program} {l : Launch} {e : Env} {s : State} {m : MethodId} {args : Array Value} {below : List Frame} {meth : Method} {c : Code} {w : cr_Wd} (X : cr_Cx w RX0 (Cond.code yX0_slotOf cX0_slotOf 3 (some (.object "ChalkRings$Playground"))) cX0_slotOf 3 p s m args meth c) (x1 : Int32) (V : cr_Hp)  (hr0 : meth.sig.returnType = (some (.object "ChalkRings$Playground"))) (x : Option Nat) (h : f_X0_slotOf x1 V = some x) : cr_J w 3 p l e rm_X0_slotOf s m args below meth c 0 0 (MQ below (cr_Qe w V x) args s 0 0 (cr_A w)) V 0 [(0, .ref (w.1 154)), (1, .int x1)] [] := by
  unfold f_X0_slotOf at h
  refine jr_aload_n X.c dX0_slotOf_0 rfl 0 rfl ?_
  refine jr_get X.c (ci := 0) (C := RX0) (T := TX0) (N := 3) (k := 1) rfl cr_in0 (Or.inl (by decide)) ((cr_row_154 w) _) rfl (by decide) fl_X0_22 dX0_slotOf_1 ?_
  refine jr_iload_n X.c dX0_slotOf_4 rfl 1 rfl ?_
  refine jr_iadd X.c dX0_slotOf_5 ?_
  refine jr_bipush X.c (v := (6 : Int32)) dX0_slotOf_6 (by decide) ?_
  refine jr_irem X.c dX0_slotOf_8 (by decide) ?_
  obtain ⟨n9, en9, h⟩ := cr_lt_s h
  refine jr_top en9 ?_
  refine jr_istore_n X.c (lv2 := [(2, .int n9), (0, .ref (w.1 154)), (1, .int x1)]) dX0_slotOf_9 rfl (by decide) rfl ?_
  refine jr_iload_n X.c dX0_slotOf_10 rfl 0 rfl ?_
  refine jr_if_lt X.c 23 dX0_slotOf_11 (by decide) (fun q11 => ?_) (fun q11 => ?_)
  · replace h := cr_if_t q11 h
    refine jr_null X.c dX0_slotOf_23 ?_
    refine jr_goto X.c 33 dX0_slotOf_24 (by decide) ?_
    cases h
    exact jr_aret X.c (r := none) hr0 dX0_slotOf_33 rfl
  · replace h := cr_if_f q11 h
    refine jr_iload_n X.c dX0_slotOf_14 rfl 0 rfl ?_
    refine jr_aload_n X.c dX0_slotOf_15 rfl 1 rfl ?_
    refine jr_get X.c (ci := 0) (C := RX0) (T := TX0) (N := 3) (k := 0) rfl cr_in0 (Or.inl (by decide)) ((cr_row_154 w) _) rfl (by decide) fl_X0_11 dX0_slotOf_16 ?_
    refine jr_alen X.c (v := (6 : Int32)) 4 rfl (Or.inl (by decide)) ((cr_row_155 w) _) rfl dX0_slotOf_19 ?_
    refine jr_icmp_lt X.c 27 dX0_slotOf_20 (by decide) (fun q20 => ?_) (fun q20 => ?_)
    · replace h := cr_if_t q20 h
      refine jr_aload_n X.c dX0_slotOf_27 rfl 1 rfl ?_
      refine jr_get X.c (ci := 0) (C := RX0) (T := TX0) (N := 3) (k := 0) rfl cr_in0 (Or.inl (by decide)) ((cr_row_154 w) _) rfl (by decide) fl_X0_11 dX0_slotOf_28 ?_
      refine jr_iload_n X.c dX0_slotOf_31 rfl 0 rfl ?_
      obtain ⟨hi32, h⟩ := cr_gd_s h
      refine jr_aald X.c (f := (fun j => 38 + 19 * j)) 4 rfl (Or.inl (by decide)) ((cr_row_155 w) _) hi32 dX0_slotOf_32 ?_
      cases h
      exact jr_aret X.c (r := (some (38 + 19 * n9.toNatClampNeg))) hr0 dX0_slotOf_33 rfl
    · replace h := cr_if_f q20 h
      refine jr_null X.c dX0_slotOf_23 ?_
      refine jr_goto X.c 33 dX0_slotOf_24 (by decide) ?_
      cases h
      exact jr_aret X.c (r := none) hr0 dX0_slotOf_33 rfl
set_option maxRecDepth 100000 in
set_option maxHeartbeats 4000000 in
theorem m_X0_slotOf (l : Launch) (w : cr_Wd) (V : cr_Hp) (x1 : Int32)  (x : Option Nat) (h : f_X0_slotOf x1 V = some x) : Met l yX0_slotOf (cr_wds yX0_slotOf cX0_slotOf 3 (some (.object "ChalkRings$Playground"))) rm_X0_slotOf (cr_Pc w V [.ref (w.1 154), .int x1]) (cr_Qe w V x) 0 0 (cr_A w) := by
  refine cr_met (own := RX0) (lv := [(0, .ref (w.1 154)), (1, .int x1)]) (by decide +kernel) rfl (Nat.le_of_ble_eq_true rfl) rfl (fun p e s m args below meth c X hr0 => ?_)
  exact t_X0_slotOf X x1 V  hr0 x h
abbrev rm_X2_copyFrom : Room := { frames := 0, cells := 0, slots := 0, locals := 0 }
theorem hd_X2_copyFrom : yX2_copyFrom.cls = RX2 ∧ yX2_copyFrom.cls ≠ "java/lang/invoke/MethodHandle" ∧ yX2_copyFrom.cls ≠ "java/lang/invoke/VarHandle" ∧ (parseMethodDescriptor yX2_copyFrom.desc).map (fun d => d.parameters.length) = some 1 := by decide +kernel
def f_X2_copyFrom (a0 : Nat) (p1 : Nat) (V : cr_Hp) : Option (cr_Hp) :=
  cr_lt (cr_pt V a0 1 (V p1 1)) (fun (V5 : cr_Hp) => cr_lt (cr_pt V5 a0 2 (V5 p1 2)) (fun (V13 : cr_Hp) => cr_lt (cr_pt V13 a0 3 (V13 p1 3)) (fun (V21 : cr_Hp) => cr_lt (cr_pt V21 a0 4 (V21 p1 4)) (fun (V29 : cr_Hp) => cr_lt (cr_pt V29 a0 5 (V29 p1 5)) (fun (V37 : cr_Hp) => cr_gd (cr_bo (V37 p1 6)) (cr_lt (cr_pt V37 a0 6 (V37 p1 6)) (fun (V45 : cr_Hp) => some V45)))))))
set_option maxRecDepth 100000 in
set_option maxHeartbeats 4000000 in
theorem t_X2_copyFrom {p : Program} {l : Launch} {e : Env} {s : State} {m : MethodId} {args : Array Value} {below : List Frame} {meth : Method} {c : Code} {w : cr_Wd} (X : cr_Cx w RX2 (Cond.code yX2_copyFrom cX2_copyFrom 2 none) cX2_copyFrom 2 p s m args meth c) (a0 : Nat) (p1 : Nat) (V : cr_Hp) (ha0 : cr_ma a0) (hp1 : cr_ma p1) (hr0 : meth.sig.returnType = none) (x : cr_Hp) (h : f_X2_copyFrom a0 p1 V = some x) : cr_J w 2 p l e rm_X2_copyFrom s m args below meth c 0 0 (MQ below (cr_Qv w x) args s 0 0 (cr_A w)) V 0 [(0, .ref (w.1 a0)), (1, .ref (w.1 p1))] [] := by
  unfold f_X2_copyFrom at h
  refine jr_aload_n X.c dX2_copyFrom_0 rfl 0 rfl ?_
  refine jr_aload_n X.c dX2_copyFrom_1 rfl 1 rfl ?_
  refine jr_get X.c (ci := 2) (C := RX2) (T := TX2) (N := 9) (k := 1) rfl cr_in2 (cr_l_ma hp1) ((cr_row_ma w hp1) _) rfl (by decide) fl_X2_18 dX2_copyFrom_2 ?_
  obtain ⟨V5, eV5, h⟩ := cr_lt_s h
  refine jr_put X.c (ci := 2) (C := RX2) (T := TX2) (N := 9) (k := 1) rfl cr_in2 tyX2 tyX2_ok nmX2 (cr_l_ma ha0) (cr_row_ma w ha0) rfl (Nat.le_of_ble_eq_true rfl) (by decide) rfl rfl rfl fl_X2_18 dX2_copyFrom_5 eV5 ?_
  refine jr_aload_n X.c dX2_copyFrom_8 rfl 0 rfl ?_
  refine jr_aload_n X.c dX2_copyFrom_9 rfl 1 rfl ?_
  refine jr_get X.c (ci := 2) (C := RX2) (T := TX2) (N := 9) (k := 2) rfl cr_in2 (cr_l_ma hp1) ((cr_row_ma w hp1) _) rfl (by decide) fl_X2_21 dX2_copyFrom_10 ?_
  obtain ⟨V13, eV13, h⟩ := cr_lt_s h
  refine jr_put X.c (ci := 2) (C := RX2) (T := TX2) (N := 9) (k := 2) rfl cr_in2 tyX2 tyX2_ok nmX2 (cr_l_ma ha0) (cr_row_ma w ha0) rfl (Nat.le_of_ble_eq_true rfl) (by decide) rfl rfl rfl fl_X2_21 dX2_copyFrom_13 eV13 ?_
  refine jr_aload_n X.c dX2_copyFrom_16 rfl 0 rfl ?_
  refine jr_aload_n X.c dX2_copyFrom_17 rfl 1 rfl ?_
  refine jr_get X.c (ci := 2) (C := RX2) (T := TX2) (N := 9) (k := 3) rfl cr_in2 (cr_l_ma hp1) ((cr_row_ma w hp1) _) rfl (by decide) fl_X2_24 dX2_copyFrom_18 ?_
  obtain ⟨V21, eV21, h⟩ := cr_lt_s h
  refine jr_put X.c (ci := 2) (C := RX2) (T := TX2) (N := 9) (k := 3) rfl cr_in2 tyX2 tyX2_ok nmX2 (cr_l_ma ha0) (cr_row_ma w ha0) rfl (Nat.le_of_ble_eq_true rfl) (by decide) rfl rfl rfl fl_X2_24 dX2_copyFrom_21 eV21 ?_
  refine jr_aload_n X.c dX2_copyFrom_24 rfl 0 rfl ?_
  refine jr_aload_n X.c dX2_copyFrom_25 rfl 1 rfl ?_
  refine jr_get X.c (ci := 2) (C := RX2) (T := TX2) (N := 9) (k := 4) rfl cr_in2 (cr_l_ma hp1) ((cr_row_ma w hp1) _) rfl (by decide) fl_X2_27 dX2_copyFrom_26 ?_
  obtain ⟨V29, eV29, h⟩ := cr_lt_s h
  refine jr_put X.c (ci := 2) (C := RX2) (T := TX2) (N := 9) (k := 4) rfl cr_in2 tyX2 tyX2_ok nmX2 (cr_l_ma ha0) (cr_row_ma w ha0) rfl (Nat.le_of_ble_eq_true rfl) (by decide) rfl rfl rfl fl_X2_27 dX2_copyFrom_29 eV29 ?_
  refine jr_aload_n X.c dX2_copyFrom_32 rfl 0 rfl ?_
  refine jr_aload_n X.c dX2_copyFrom_33 rfl 1 rfl ?_
  refine jr_get X.c (ci := 2) (C := RX2) (T := TX2) (N := 9) (k := 5) rfl cr_in2 (cr_l_ma hp1) ((cr_row_ma w hp1) _) rfl (by decide) fl_X2_15 dX2_copyFrom_34 ?_
  obtain ⟨V37, eV37, h⟩ := cr_lt_s h
  refine jr_put X.c (ci := 2) (C := RX2) (T := TX2) (N := 9) (k := 5) rfl cr_in2 tyX2 tyX2_ok nmX2 (cr_l_ma ha0) (cr_row_ma w ha0) rfl (Nat.le_of_ble_eq_true rfl) (by decide) rfl rfl rfl fl_X2_15 dX2_copyFrom_37 eV37 ?_
  refine jr_aload_n X.c dX2_copyFrom_40 rfl 0 rfl ?_
  refine jr_aload_n X.c dX2_copyFrom_41 rfl 1 rfl ?_
  refine jr_get X.c (ci := 2) (C := RX2) (T := TX2) (N := 9) (k := 6) rfl cr_in2 (cr_l_ma hp1) ((cr_row_ma w hp1) _) rfl (by decide) fl_X2_30 dX2_copyFrom_42 ?_
  obtain ⟨hk45, h⟩ := cr_gd_s h
  obtain ⟨V45, eV45, h⟩ := cr_lt_s h
  refine jr_put X.c (ci := 2) (C := RX2) (T := TX2) (N := 9) (k := 6) rfl cr_in2 tyX2 tyX2_ok nmX2 (cr_l_ma ha0) (cr_row_ma w ha0) rfl (Nat.le_of_ble_eq_true rfl) (by decide) rfl (cr_nb hk45) (cr_fb hk45) fl_X2_30 dX2_copyFrom_45 eV45 ?_
  cases h
  exact jr_vret X.c hr0 dX2_copyFrom_48
set_option maxRecDepth 100000 in
set_option maxHeartbeats 4000000 in
theorem m_X2_copyFrom (l : Launch) (w : cr_Wd) (V : cr_Hp) (a0 : Nat) (p1 : Nat) (ha0 : cr_ma a0) (hp1 : cr_ma p1) (x : cr_Hp) (h : f_X2_copyFrom a0 p1 V = some x) : Met l yX2_copyFrom (cr_wds yX2_copyFrom cX2_copyFrom 2 none) rm_X2_copyFrom (cr_Pc w V [.ref (w.1 a0), .ref (w.1 p1)]) (cr_Qv w x) 0 0 (cr_A w) := by
  refine cr_met (own := RX2) (lv := [(0, .ref (w.1 a0)), (1, .ref (w.1 p1))]) (by decide +kernel) rfl (Nat.le_of_ble_eq_true rfl) rfl (fun p e s m args below meth c X hr0 => ?_)
  exact t_X2_copyFrom X a0 p1 V ha0 hp1 hr0 x h
abbrev rm_X4_copyFrom : Room := { frames := 0, cells := 0, slots := 0, locals := 0 }
theorem hd_X4_copyFrom : yX4_copyFrom.cls = RX4 ∧ yX4_copyFrom.cls ≠ "java/lang/invoke/MethodHandle" ∧ yX4_copyFrom.cls ≠ "java/lang/invoke/VarHandle" ∧ (parseMethodDescriptor yX4_copyFrom.desc).map (fun d => d.parameters.length) = some 1 := by decide +kernel
def f_X4_copyFrom (a0 : Nat) (p1 : Nat) (V : cr_Hp) : Option (cr_Hp) :=
  cr_lt (cr_pt V a0 0 (V p1 0)) (fun (V5 : cr_Hp) => cr_lt (cr_pt V5 a0 1 (V5 p1 1)) (fun (V13 : cr_Hp) => cr_lt (cr_pt V13 a0 2 (V13 p1 2)) (fun (V21 : cr_Hp) => some V21)))
set_option maxRecDepth 100000 in
set_option maxHeartbeats 4000000 in
theorem t_X4_copyFrom {p : Program} {l : Launch} {e : Env} {s : State} {m : MethodId} {args : Array Value} {below : List Frame} {meth : Method} {c : Code} {w : cr_Wd} (X : cr_Cx w RX4 (Cond.code yX4_copyFrom cX4_copyFrom 2 none) cX4_copyFrom 2 p s m args meth c) (a0 : Nat) (p1 : Nat) (V : cr_Hp) (ha0 : cr_rg a0) (hp1 : cr_rg p1) (hr0 : meth.sig.returnType = none) (x : cr_Hp) (h : f_X4_copyFrom a0 p1 V = some x) : cr_J w 2 p l e rm_X4_copyFrom s m args below meth c 0 0 (MQ below (cr_Qv w x) args s 0 0 (cr_A w)) V 0 [(0, .ref (w.1 a0)), (1, .ref (w.1 p1))] [] := by
  unfold f_X4_copyFrom at h
  refine jr_aload_n X.c dX4_copyFrom_0 rfl 0 rfl ?_
  refine jr_aload_n X.c dX4_copyFrom_1 rfl 1 rfl ?_
  refine jr_get X.c (ci := 4) (C := RX4) (T := TX4) (N := 3) (k := 0) rfl cr_in4 (cr_l_rg hp1) ((cr_row_rg w hp1) _) rfl (by decide) fl_X4_9 dX4_copyFrom_2 ?_
  obtain ⟨V5, eV5, h⟩ := cr_lt_s h
  refine jr_put X.c (ci := 4) (C := RX4) (T := TX4) (N := 3) (k := 0) rfl cr_in4 tyX4 tyX4_ok nmX4 (cr_l_rg ha0) (cr_row_rg w ha0) rfl (Nat.le_of_ble_eq_true rfl) (by decide) rfl rfl rfl fl_X4_9 dX4_copyFrom_5 eV5 ?_
  refine jr_aload_n X.c dX4_copyFrom_8 rfl 0 rfl ?_
  refine jr_aload_n X.c dX4_copyFrom_9 rfl 1 rfl ?_
  refine jr_get X.c (ci := 4) (C := RX4) (T := TX4) (N := 3) (k := 1) rfl cr_in4 (cr_l_rg hp1) ((cr_row_rg w hp1) _) rfl (by decide) fl_X4_15 dX4_copyFrom_10 ?_
  obtain ⟨V13, eV13, h⟩ := cr_lt_s h
  refine jr_put X.c (ci := 4) (C := RX4) (T := TX4) (N := 3) (k := 1) rfl cr_in4 tyX4 tyX4_ok nmX4 (cr_l_rg ha0) (cr_row_rg w ha0) rfl (Nat.le_of_ble_eq_true rfl) (by decide) rfl rfl rfl fl_X4_15 dX4_copyFrom_13 eV13 ?_
  refine jr_aload_n X.c dX4_copyFrom_16 rfl 0 rfl ?_
  refine jr_aload_n X.c dX4_copyFrom_17 rfl 1 rfl ?_
  refine jr_get X.c (ci := 4) (C := RX4) (T := TX4) (N := 3) (k := 2) rfl cr_in4 (cr_l_rg hp1) ((cr_row_rg w hp1) _) rfl (by decide) fl_X4_18 dX4_copyFrom_18 ?_
  obtain ⟨V21, eV21, h⟩ := cr_lt_s h
  refine jr_put X.c (ci := 4) (C := RX4) (T := TX4) (N := 3) (k := 2) rfl cr_in4 tyX4 tyX4_ok nmX4 (cr_l_rg ha0) (cr_row_rg w ha0) rfl (Nat.le_of_ble_eq_true rfl) (by decide) rfl rfl rfl fl_X4_18 dX4_copyFrom_21 eV21 ?_
  cases h
  exact jr_vret X.c hr0 dX4_copyFrom_24
set_option maxRecDepth 100000 in
set_option maxHeartbeats 4000000 in
theorem m_X4_copyFrom (l : Launch) (w : cr_Wd) (V : cr_Hp) (a0 : Nat) (p1 : Nat) (ha0 : cr_rg a0) (hp1 : cr_rg p1) (x : cr_Hp) (h : f_X4_copyFrom a0 p1 V = some x) : Met l yX4_copyFrom (cr_wds yX4_copyFrom cX4_copyFrom 2 none) rm_X4_copyFrom (cr_Pc w V [.ref (w.1 a0), .ref (w.1 p1)]) (cr_Qv w x) 0 0 (cr_A w) := by
  refine cr_met (own := RX4) (lv := [(0, .ref (w.1 a0)), (1, .ref (w.1 p1))]) (by decide +kernel) rfl (Nat.le_of_ble_eq_true rfl) rfl (fun p e s m args below meth c X hr0 => ?_)
  exact t_X4_copyFrom X a0 p1 V ha0 hp1 hr0 x h
abbrev rm_X3_copyFrom : Room := { frames := 1, cells := 0, slots := 0, locals := 21 }
theorem hd_X3_copyFrom : yX3_copyFrom.cls = RX3 ∧ yX3_copyFrom.cls ≠ "java/lang/invoke/MethodHandle" ∧ yX3_copyFrom.cls ≠ "java/lang/invoke/VarHandle" ∧ (parseMethodDescriptor yX3_copyFrom.desc).map (fun d => d.parameters.length) = some 1 := by decide +kernel
def f_X3_copyFrom_l2 (a0 : Nat) (p1 : Nat) (x2_2 : Int32) (V_l2 : cr_Hp) : Option ((Int32 × cr_Hp) ⊕ cr_Hp) :=
  if (12 : Int32) ≤ x2_2 then (some (.inr V_l2)) else (if (12 : Int32) ≤ x2_2 then (some (.inr V_l2)) else (cr_gd (cr_ix x2_2 12) (cr_gd (cr_ix x2_2 12) (cr_bd (f_X2_copyFrom ((a0 + 1) + 2 + x2_2.toNatClampNeg) ((p1 + 1) + 2 + x2_2.toNatClampNeg) V_l2) (fun (V47 : cr_Hp) => some (.inl ((x2_2 + (1 : Int32)), V47)))))))
set_option maxRecDepth 100000 in
set_option maxHeartbeats 4000000 in
theorem t_X3_copyFrom_l2 {p : Program} {l : Launch} {e : Env} {s : State} {m : MethodId} {args : Array Value} {below : List Frame} {meth : Method} {c : Code} {w : cr_Wd} {Q : State → Prop} (X : cr_Cx w RX3 (Cond.code yX3_copyFrom cX3_copyFrom 5 none) cX3_copyFrom 5 p s m args meth c) (a0 : Nat) (p1 : Nat) (x2_2 : Int32) (V_l2 : cr_Hp) (ha0 : cr_pg a0) (hp1 : cr_pg p1) (x : (Int32 × cr_Hp) ⊕ cr_Hp) (h : f_X3_copyFrom_l2 a0 p1 x2_2 V_l2 = some x) (kl : ∀ (x2_2 : Int32) (V_l2 : cr_Hp), x = .inl (x2_2, V_l2) → cr_J w 5 p l e rm_X3_copyFrom s m args below meth c 0 0 Q V_l2 2 [(0, .ref (w.1 a0)), (1, .ref (w.1 p1)), (2, .int x2_2)] []) (kr56 : ∀ (V_e2_56 : cr_Hp), x = .inr V_e2_56 → cr_J w 5 p l e rm_X3_copyFrom s m args below meth c 0 0 Q V_e2_56 56 [(0, .ref (w.1 a0)), (1, .ref (w.1 p1))] []) : cr_J w 5 p l e rm_X3_copyFrom s m args below meth c 0 0 Q V_l2 2 [(0, .ref (w.1 a0)), (1, .ref (w.1 p1)), (2, .int x2_2)] [] := by
  unfold f_X3_copyFrom_l2 at h
  refine jr_iload_n X.c dX3_copyFrom_2 rfl 2 rfl ?_
  refine jr_aload_n X.c dX3_copyFrom_3 rfl 0 rfl ?_
  refine jr_get X.c (ci := 3) (C := RX3) (T := TX3) (N := 10) (k := 0) rfl cr_in3 (cr_l_pg ha0) ((cr_row_pg w ha0) _) rfl (by decide) fl_X3_11 dX3_copyFrom_4 ?_
  refine jr_alen X.c (v := (12 : Int32)) 2 rfl (cr_l_ms (cr_pg_ms ha0)) ((cr_row_ms w (cr_pg_ms ha0)) _) rfl dX3_copyFrom_7 ?_
  refine jr_icmp_ge X.c 56 dX3_copyFrom_8 (by decide) (fun q8 => ?_) (fun q8 => ?_)
  · replace h := cr_if_t q8 h
    cases h
    refine jr_sub [0, 1] rfl ?_
    exact kr56 V_l2 rfl
  · replace h := cr_if_f q8 h
    refine jr_iload_n X.c dX3_copyFrom_11 rfl 2 rfl ?_
    refine jr_aload_n X.c dX3_copyFrom_12 rfl 1 rfl ?_
    refine jr_get X.c (ci := 3) (C := RX3) (T := TX3) (N := 10) (k := 0) rfl cr_in3 (cr_l_pg hp1) ((cr_row_pg w hp1) _) rfl (by decide) fl_X3_11 dX3_copyFrom_13 ?_
    refine jr_alen X.c (v := (12 : Int32)) 2 rfl (cr_l_ms (cr_pg_ms hp1)) ((cr_row_ms w (cr_pg_ms hp1)) _) rfl dX3_copyFrom_16 ?_
    refine jr_icmp_ge X.c 56 dX3_copyFrom_17 (by decide) (fun q17 => ?_) (fun q17 => ?_)
    · replace h := cr_if_t q17 h
      cases h
      refine jr_sub [0, 1] rfl ?_
      exact kr56 V_l2 rfl
    · replace h := cr_if_f q17 h
      refine jr_aload_n X.c dX3_copyFrom_20 rfl 0 rfl ?_
      refine jr_get X.c (ci := 3) (C := RX3) (T := TX3) (N := 10) (k := 0) rfl cr_in3 (cr_l_pg ha0) ((cr_row_pg w ha0) _) rfl (by decide) fl_X3_11 dX3_copyFrom_21 ?_
      refine jr_iload_n X.c dX3_copyFrom_24 rfl 2 rfl ?_
      obtain ⟨hi25, h⟩ := cr_gd_s h
      refine jr_aald X.c (f := (fun j => (a0 + 1) + 2 + j)) 2 rfl (cr_l_ms (cr_pg_ms ha0)) ((cr_row_ms w (cr_pg_ms ha0)) _) hi25 dX3_copyFrom_25 ?_
      refine jr_astore_n X.c (lv2 := [(3, .ref (w.1 ((a0 + 1) + 2 + x2_2.toNatClampNeg))), (0, .ref (w.1 a0)), (1, .ref (w.1 p1)), (2, .int x2_2)]) dX3_copyFrom_26 rfl (by decide) rfl ?_
      refine jr_aload_n X.c dX3_copyFrom_27 rfl 2 rfl ?_
      refine jr_get X.c (ci := 3) (C := RX3) (T := TX3) (N := 10) (k := 0) rfl cr_in3 (cr_l_pg hp1) ((cr_row_pg w hp1) _) rfl (by decide) fl_X3_11 dX3_copyFrom_28 ?_
      refine jr_iload_n X.c dX3_copyFrom_31 rfl 3 rfl ?_
      obtain ⟨hi32, h⟩ := cr_gd_s h
      refine jr_aald X.c (f := (fun j => (p1 + 1) + 2 + j)) 2 rfl (cr_l_ms (cr_pg_ms hp1)) ((cr_row_ms w (cr_pg_ms hp1)) _) hi32 dX3_copyFrom_32 ?_
      refine jr_astore X.c (lv2 := [(4, .ref (w.1 ((p1 + 1) + 2 + x2_2.toNatClampNeg))), (3, .ref (w.1 ((a0 + 1) + 2 + x2_2.toNatClampNeg))), (0, .ref (w.1 a0)), (1, .ref (w.1 p1)), (2, .int x2_2)]) dX3_copyFrom_33 (by decide) rfl ?_
      refine jr_aload_n X.c dX3_copyFrom_35 rfl 1 rfl ?_
      refine jr_ifnullR X.c dX3_copyFrom_36 ?_
      refine jr_aload X.c dX3_copyFrom_39 0 rfl ?_
      refine jr_ifnullR X.c dX3_copyFrom_41 ?_
      refine jr_aload_n X.c dX3_copyFrom_44 rfl 1 rfl ?_
      refine jr_aload X.c dX3_copyFrom_45 0 rfl ?_
      obtain ⟨V47, hr47, h⟩ := cr_bd_s h
      refine jc_Vv X.c (As := [.ref (w.1 ((p1 + 1) + 2 + x2_2.toNatClampNeg))]) (V1 := V47) (C := RX2) (T := TX2) (N := 9) (ci := 2) 1 (m_X2_copyFrom l w V_l2 ((a0 + 1) + 2 + x2_2.toNatClampNeg) ((p1 + 1) + 2 + x2_2.toNatClampNeg) (cr_ms_ma (cr_pg_ms ha0) (cr_ix_lt hi25)) (cr_ms_ma (cr_pg_ms hp1) (cr_ix_lt hi32)) V47 hr47) ⟨rfl, rfl⟩ ml_X3_27 im_X2_copyFrom sl_X2_copyFrom in_X2 cd_X2_copyFrom hd_X2_copyFrom ⟨Nat.le_of_ble_eq_true rfl, Nat.le_of_ble_eq_true rfl⟩ ⟨Nat.le_of_ble_eq_true rfl, Nat.le_of_ble_eq_true rfl⟩ rfl (Nat.le_of_ble_eq_true rfl) (cr_l_ma (cr_ms_ma (cr_pg_ms ha0) (cr_ix_lt hi25))) ((cr_row_ma w (cr_ms_ma (cr_pg_ms ha0) (cr_ix_lt hi25))) _) rfl rfl dX3_copyFrom_47 ?_
      refine jr_iinc X.c (v := (x2_2 + (1 : Int32))) (lv2 := [(2, .int (x2_2 + (1 : Int32))), (4, .ref (w.1 ((p1 + 1) + 2 + x2_2.toNatClampNeg))), (3, .ref (w.1 ((a0 + 1) + 2 + x2_2.toNatClampNeg))), (0, .ref (w.1 a0)), (1, .ref (w.1 p1))]) dX3_copyFrom_50 4 rfl (by rfl) (by decide) rfl ?_
      refine jr_goto X.c 2 dX3_copyFrom_53 (by decide) ?_
      cases h
      refine jr_sub [3, 4, 0] rfl ?_
      exact kl (x2_2 + (1 : Int32)) V47 rfl
def f_X3_copyFrom_l58 (a0 : Nat) (p1 : Nat) (x2_58 : Int32) (V_l58 : cr_Hp) : Option ((Int32 × cr_Hp) ⊕ cr_Hp) :=
  if (4 : Int32) ≤ x2_58 then (some (.inr V_l58)) else (if (4 : Int32) ≤ x2_58 then (some (.inr V_l58)) else (cr_gd (cr_ix x2_58 4) (cr_gd (cr_ix x2_58 4) (cr_bd (f_X4_copyFrom ((a0 + 2) + 13 + x2_58.toNatClampNeg) ((p1 + 2) + 13 + x2_58.toNatClampNeg) V_l58) (fun (V103 : cr_Hp) => some (.inl ((x2_58 + (1 : Int32)), V103)))))))
set_option maxRecDepth 100000 in
set_option maxHeartbeats 4000000 in
theorem t_X3_copyFrom_l58 {p : Program} {l : Launch} {e : Env} {s : State} {m : MethodId} {args : Array Value} {below : List Frame} {meth : Method} {c : Code} {w : cr_Wd} {Q : State → Prop} (X : cr_Cx w RX3 (Cond.code yX3_copyFrom cX3_copyFrom 5 none) cX3_copyFrom 5 p s m args meth c) (a0 : Nat) (p1 : Nat) (x2_58 : Int32) (V_l58 : cr_Hp) (ha0 : cr_pg a0) (hp1 : cr_pg p1) (x : (Int32 × cr_Hp) ⊕ cr_Hp) (h : f_X3_copyFrom_l58 a0 p1 x2_58 V_l58 = some x) (kl : ∀ (x2_58 : Int32) (V_l58 : cr_Hp), x = .inl (x2_58, V_l58) → cr_J w 5 p l e rm_X3_copyFrom s m args below meth c 0 0 Q V_l58 58 [(0, .ref (w.1 a0)), (1, .ref (w.1 p1)), (2, .int x2_58)] []) (kr112 : ∀ (V_e58_112 : cr_Hp), x = .inr V_e58_112 → cr_J w 5 p l e rm_X3_copyFrom s m args below meth c 0 0 Q V_e58_112 112 [(0, .ref (w.1 a0)), (1, .ref (w.1 p1))] []) : cr_J w 5 p l e rm_X3_copyFrom s m args below meth c 0 0 Q V_l58 58 [(0, .ref (w.1 a0)), (1, .ref (w.1 p1)), (2, .int x2_58)] [] := by
  unfold f_X3_copyFrom_l58 at h
  refine jr_iload_n X.c dX3_copyFrom_58 rfl 2 rfl ?_
  refine jr_aload_n X.c dX3_copyFrom_59 rfl 0 rfl ?_
  refine jr_get X.c (ci := 3) (C := RX3) (T := TX3) (N := 10) (k := 1) rfl cr_in3 (cr_l_pg ha0) ((cr_row_pg w ha0) _) rfl (by decide) fl_X3_22 dX3_copyFrom_60 ?_
  refine jr_alen X.c (v := (4 : Int32)) 3 rfl (cr_l_rs (cr_pg_rs ha0)) ((cr_row_rs w (cr_pg_rs ha0)) _) rfl dX3_copyFrom_63 ?_
  refine jr_icmp_ge X.c 112 dX3_copyFrom_64 (by decide) (fun q64 => ?_) (fun q64 => ?_)
  · replace h := cr_if_t q64 h
    cases h
    refine jr_sub [0, 1] rfl ?_
    exact kr112 V_l58 rfl
  · replace h := cr_if_f q64 h
    refine jr_iload_n X.c dX3_copyFrom_67 rfl 2 rfl ?_
    refine jr_aload_n X.c dX3_copyFrom_68 rfl 1 rfl ?_
    refine jr_get X.c (ci := 3) (C := RX3) (T := TX3) (N := 10) (k := 1) rfl cr_in3 (cr_l_pg hp1) ((cr_row_pg w hp1) _) rfl (by decide) fl_X3_22 dX3_copyFrom_69 ?_
    refine jr_alen X.c (v := (4 : Int32)) 3 rfl (cr_l_rs (cr_pg_rs hp1)) ((cr_row_rs w (cr_pg_rs hp1)) _) rfl dX3_copyFrom_72 ?_
    refine jr_icmp_ge X.c 112 dX3_copyFrom_73 (by decide) (fun q73 => ?_) (fun q73 => ?_)
    · replace h := cr_if_t q73 h
      cases h
      refine jr_sub [0, 1] rfl ?_
      exact kr112 V_l58 rfl
    · replace h := cr_if_f q73 h
      refine jr_aload_n X.c dX3_copyFrom_76 rfl 0 rfl ?_
      refine jr_get X.c (ci := 3) (C := RX3) (T := TX3) (N := 10) (k := 1) rfl cr_in3 (cr_l_pg ha0) ((cr_row_pg w ha0) _) rfl (by decide) fl_X3_22 dX3_copyFrom_77 ?_
      refine jr_iload_n X.c dX3_copyFrom_80 rfl 2 rfl ?_
      obtain ⟨hi81, h⟩ := cr_gd_s h
      refine jr_aald X.c (f := (fun j => (a0 + 2) + 13 + j)) 3 rfl (cr_l_rs (cr_pg_rs ha0)) ((cr_row_rs w (cr_pg_rs ha0)) _) hi81 dX3_copyFrom_81 ?_
      refine jr_astore_n X.c (lv2 := [(3, .ref (w.1 ((a0 + 2) + 13 + x2_58.toNatClampNeg))), (0, .ref (w.1 a0)), (1, .ref (w.1 p1)), (2, .int x2_58)]) dX3_copyFrom_82 rfl (by decide) rfl ?_
      refine jr_aload_n X.c dX3_copyFrom_83 rfl 2 rfl ?_
      refine jr_get X.c (ci := 3) (C := RX3) (T := TX3) (N := 10) (k := 1) rfl cr_in3 (cr_l_pg hp1) ((cr_row_pg w hp1) _) rfl (by decide) fl_X3_22 dX3_copyFrom_84 ?_
      refine jr_iload_n X.c dX3_copyFrom_87 rfl 3 rfl ?_
      obtain ⟨hi88, h⟩ := cr_gd_s h
      refine jr_aald X.c (f := (fun j => (p1 + 2) + 13 + j)) 3 rfl (cr_l_rs (cr_pg_rs hp1)) ((cr_row_rs w (cr_pg_rs hp1)) _) hi88 dX3_copyFrom_88 ?_
      refine jr_astore X.c (lv2 := [(4, .ref (w.1 ((p1 + 2) + 13 + x2_58.toNatClampNeg))), (3, .ref (w.1 ((a0 + 2) + 13 + x2_58.toNatClampNeg))), (0, .ref (w.1 a0)), (1, .ref (w.1 p1)), (2, .int x2_58)]) dX3_copyFrom_89 (by decide) rfl ?_
      refine jr_aload_n X.c dX3_copyFrom_91 rfl 1 rfl ?_
      refine jr_ifnullR X.c dX3_copyFrom_92 ?_
      refine jr_aload X.c dX3_copyFrom_95 0 rfl ?_
      refine jr_ifnullR X.c dX3_copyFrom_97 ?_
      refine jr_aload_n X.c dX3_copyFrom_100 rfl 1 rfl ?_
      refine jr_aload X.c dX3_copyFrom_101 0 rfl ?_
      obtain ⟨V103, hr103, h⟩ := cr_bd_s h
      refine jc_Vv X.c (As := [.ref (w.1 ((p1 + 2) + 13 + x2_58.toNatClampNeg))]) (V1 := V103) (C := RX4) (T := TX4) (N := 3) (ci := 4) 1 (m_X4_copyFrom l w V_l58 ((a0 + 2) + 13 + x2_58.toNatClampNeg) ((p1 + 2) + 13 + x2_58.toNatClampNeg) (cr_rs_rg (cr_pg_rs ha0) (cr_ix_lt hi81)) (cr_rs_rg (cr_pg_rs hp1) (cr_ix_lt hi88)) V103 hr103) ⟨rfl, rfl⟩ ml_X3_31 im_X4_copyFrom sl_X4_copyFrom in_X4 cd_X4_copyFrom hd_X4_copyFrom ⟨Nat.le_of_ble_eq_true rfl, Nat.le_of_ble_eq_true rfl⟩ ⟨Nat.le_of_ble_eq_true rfl, Nat.le_of_ble_eq_true rfl⟩ rfl (Nat.le_of_ble_eq_true rfl) (cr_l_rg (cr_rs_rg (cr_pg_rs ha0) (cr_ix_lt hi81))) ((cr_row_rg w (cr_rs_rg (cr_pg_rs ha0) (cr_ix_lt hi81))) _) rfl rfl dX3_copyFrom_103 ?_
      refine jr_iinc X.c (v := (x2_58 + (1 : Int32))) (lv2 := [(2, .int (x2_58 + (1 : Int32))), (4, .ref (w.1 ((p1 + 2) + 13 + x2_58.toNatClampNeg))), (3, .ref (w.1 ((a0 + 2) + 13 + x2_58.toNatClampNeg))), (0, .ref (w.1 a0)), (1, .ref (w.1 p1))]) dX3_copyFrom_106 4 rfl (by rfl) (by decide) rfl ?_
      refine jr_goto X.c 58 dX3_copyFrom_109 (by decide) ?_
      cases h
      refine jr_sub [3, 4, 0] rfl ?_
      exact kl (x2_58 + (1 : Int32)) V103 rfl
def f_X3_copyFrom_b112 (a0 : Nat) (p1 : Nat) (V_e58_112 : cr_Hp) : Option (cr_Hp) :=
  cr_lt (cr_pt V_e58_112 a0 2 (V_e58_112 p1 2)) (fun (V117 : cr_Hp) => cr_lt (cr_pt V117 a0 3 (V117 p1 3)) (fun (V125 : cr_Hp) => cr_lt (cr_pt V125 a0 4 (V125 p1 4)) (fun (V133 : cr_Hp) => cr_lt (cr_pt V133 a0 5 (V133 p1 5)) (fun (V141 : cr_Hp) => cr_lt (cr_pt V141 a0 6 (V141 p1 6)) (fun (V149 : cr_Hp) => cr_lt (cr_pt V149 a0 7 (V149 p1 7)) (fun (V157 : cr_Hp) => cr_lt (cr_pt V157 a0 8 (V157 p1 8)) (fun (V165 : cr_Hp) => cr_lt (cr_pt V165 a0 9 (V165 p1 9)) (fun (V173 : cr_Hp) => some V173))))))))
set_option maxRecDepth 100000 in
set_option maxHeartbeats 4000000 in
theorem t_X3_copyFrom_b112 {p : Program} {l : Launch} {e : Env} {s : State} {m : MethodId} {args : Array Value} {below : List Frame} {meth : Method} {c : Code} {w : cr_Wd} (X : cr_Cx w RX3 (Cond.code yX3_copyFrom cX3_copyFrom 5 none) cX3_copyFrom 5 p s m args meth c) (a0 : Nat) (p1 : Nat) (V_e58_112 : cr_Hp) (ha0 : cr_pg a0) (hp1 : cr_pg p1) (hr0 : meth.sig.returnType = none) (x : cr_Hp) (h : f_X3_copyFrom_b112 a0 p1 V_e58_112 = some x) : cr_J w 5 p l e rm_X3_copyFrom s m args below meth c 0 0 (MQ below (cr_Qv w x) args s 0 0 (cr_A w)) V_e58_112 112 [(0, .ref (w.1 a0)), (1, .ref (w.1 p1))] [] := by
  unfold f_X3_copyFrom_b112 at h
  refine jr_aload_n X.c dX3_copyFrom_112 rfl 0 rfl ?_
  refine jr_aload_n X.c dX3_copyFrom_113 rfl 1 rfl ?_
  refine jr_get X.c (ci := 3) (C := RX3) (T := TX3) (N := 10) (k := 2) rfl cr_in3 (cr_l_pg hp1) ((cr_row_pg w hp1) _) rfl (by decide) fl_X3_34 dX3_copyFrom_114 ?_
  obtain ⟨V117, eV117, h⟩ := cr_lt_s h
  refine jr_put X.c (ci := 3) (C := RX3) (T := TX3) (N := 10) (k := 2) rfl cr_in3 tyX3 tyX3_ok nmX3 (cr_l_pg ha0) (cr_row_pg w ha0) rfl (Nat.le_of_ble_eq_true rfl) (by decide) rfl rfl rfl fl_X3_34 dX3_copyFrom_117 eV117 ?_
  refine jr_aload_n X.c dX3_copyFrom_120 rfl 0 rfl ?_
  refine jr_aload_n X.c dX3_copyFrom_121 rfl 1 rfl ?_
  refine jr_get X.c (ci := 3) (C := RX3) (T := TX3) (N := 10) (k := 3) rfl cr_in3 (cr_l_pg hp1) ((cr_row_pg w hp1) _) rfl (by decide) fl_X3_38 dX3_copyFrom_122 ?_
  obtain ⟨V125, eV125, h⟩ := cr_lt_s h
  refine jr_put X.c (ci := 3) (C := RX3) (T := TX3) (N := 10) (k := 3) rfl cr_in3 tyX3 tyX3_ok nmX3 (cr_l_pg ha0) (cr_row_pg w ha0) rfl (Nat.le_of_ble_eq_true rfl) (by decide) rfl rfl rfl fl_X3_38 dX3_copyFrom_125 eV125 ?_
  refine jr_aload_n X.c dX3_copyFrom_128 rfl 0 rfl ?_
  refine jr_aload_n X.c dX3_copyFrom_129 rfl 1 rfl ?_
  refine jr_get X.c (ci := 3) (C := RX3) (T := TX3) (N := 10) (k := 4) rfl cr_in3 (cr_l_pg hp1) ((cr_row_pg w hp1) _) rfl (by decide) fl_X3_41 dX3_copyFrom_130 ?_
  obtain ⟨V133, eV133, h⟩ := cr_lt_s h
  refine jr_put X.c (ci := 3) (C := RX3) (T := TX3) (N := 10) (k := 4) rfl cr_in3 tyX3 tyX3_ok nmX3 (cr_l_pg ha0) (cr_row_pg w ha0) rfl (Nat.le_of_ble_eq_true rfl) (by decide) rfl rfl rfl fl_X3_41 dX3_copyFrom_133 eV133 ?_
  refine jr_aload_n X.c dX3_copyFrom_136 rfl 0 rfl ?_
  refine jr_aload_n X.c dX3_copyFrom_137 rfl 1 rfl ?_
  refine jr_get X.c (ci := 3) (C := RX3) (T := TX3) (N := 10) (k := 5) rfl cr_in3 (cr_l_pg hp1) ((cr_row_pg w hp1) _) rfl (by decide) fl_X3_44 dX3_copyFrom_138 ?_
  obtain ⟨V141, eV141, h⟩ := cr_lt_s h
  refine jr_put X.c (ci := 3) (C := RX3) (T := TX3) (N := 10) (k := 5) rfl cr_in3 tyX3 tyX3_ok nmX3 (cr_l_pg ha0) (cr_row_pg w ha0) rfl (Nat.le_of_ble_eq_true rfl) (by decide) rfl rfl rfl fl_X3_44 dX3_copyFrom_141 eV141 ?_
  refine jr_aload_n X.c dX3_copyFrom_144 rfl 0 rfl ?_
  refine jr_aload_n X.c dX3_copyFrom_145 rfl 1 rfl ?_
  refine jr_get X.c (ci := 3) (C := RX3) (T := TX3) (N := 10) (k := 6) rfl cr_in3 (cr_l_pg hp1) ((cr_row_pg w hp1) _) rfl (by decide) fl_X3_47 dX3_copyFrom_146 ?_
  obtain ⟨V149, eV149, h⟩ := cr_lt_s h
  refine jr_put X.c (ci := 3) (C := RX3) (T := TX3) (N := 10) (k := 6) rfl cr_in3 tyX3 tyX3_ok nmX3 (cr_l_pg ha0) (cr_row_pg w ha0) rfl (Nat.le_of_ble_eq_true rfl) (by decide) rfl rfl rfl fl_X3_47 dX3_copyFrom_149 eV149 ?_
  refine jr_aload_n X.c dX3_copyFrom_152 rfl 0 rfl ?_
  refine jr_aload_n X.c dX3_copyFrom_153 rfl 1 rfl ?_
  refine jr_get X.c (ci := 3) (C := RX3) (T := TX3) (N := 10) (k := 7) rfl cr_in3 (cr_l_pg hp1) ((cr_row_pg w hp1) _) rfl (by decide) fl_X3_50 dX3_copyFrom_154 ?_
  obtain ⟨V157, eV157, h⟩ := cr_lt_s h
  refine jr_put X.c (ci := 3) (C := RX3) (T := TX3) (N := 10) (k := 7) rfl cr_in3 tyX3 tyX3_ok nmX3 (cr_l_pg ha0) (cr_row_pg w ha0) rfl (Nat.le_of_ble_eq_true rfl) (by decide) rfl rfl rfl fl_X3_50 dX3_copyFrom_157 eV157 ?_
  refine jr_aload_n X.c dX3_copyFrom_160 rfl 0 rfl ?_
  refine jr_aload_n X.c dX3_copyFrom_161 rfl 1 rfl ?_
  refine jr_get X.c (ci := 3) (C := RX3) (T := TX3) (N := 10) (k := 8) rfl cr_in3 (cr_l_pg hp1) ((cr_row_pg w hp1) _) rfl (by decide) fl_X3_53 dX3_copyFrom_162 ?_
  obtain ⟨V165, eV165, h⟩ := cr_lt_s h
  refine jr_put X.c (ci := 3) (C := RX3) (T := TX3) (N := 10) (k := 8) rfl cr_in3 tyX3 tyX3_ok nmX3 (cr_l_pg ha0) (cr_row_pg w ha0) rfl (Nat.le_of_ble_eq_true rfl) (by decide) rfl rfl rfl fl_X3_53 dX3_copyFrom_165 eV165 ?_
  refine jr_aload_n X.c dX3_copyFrom_168 rfl 0 rfl ?_
  refine jr_aload_n X.c dX3_copyFrom_169 rfl 1 rfl ?_
  refine jr_get X.c (ci := 3) (C := RX3) (T := TX3) (N := 10) (k := 9) rfl cr_in3 (cr_l_pg hp1) ((cr_row_pg w hp1) _) rfl (by decide) fl_X3_56 dX3_copyFrom_170 ?_
  obtain ⟨V173, eV173, h⟩ := cr_lt_s h
  refine jr_put X.c (ci := 3) (C := RX3) (T := TX3) (N := 10) (k := 9) rfl cr_in3 tyX3 tyX3_ok nmX3 (cr_l_pg ha0) (cr_row_pg w ha0) rfl (Nat.le_of_ble_eq_true rfl) (by decide) rfl rfl rfl fl_X3_56 dX3_copyFrom_173 eV173 ?_
  cases h
  exact jr_vret X.c hr0 dX3_copyFrom_176
def f_X3_copyFrom_b56 (a0 : Nat) (p1 : Nat) (V_e2_56 : cr_Hp) : Option (cr_Hp) :=
  cr_bd (cr_it (fun (q : Int32 × cr_Hp) => f_X3_copyFrom_l58 a0 p1 q.1 q.2) cr_FU ((0 : Int32), V_e2_56)) (fun (V_e58_112 : cr_Hp) => f_X3_copyFrom_b112 a0 p1 V_e58_112)
set_option maxRecDepth 100000 in
set_option maxHeartbeats 4000000 in
theorem t_X3_copyFrom_b56 {p : Program} {l : Launch} {e : Env} {s : State} {m : MethodId} {args : Array Value} {below : List Frame} {meth : Method} {c : Code} {w : cr_Wd} (X : cr_Cx w RX3 (Cond.code yX3_copyFrom cX3_copyFrom 5 none) cX3_copyFrom 5 p s m args meth c) (a0 : Nat) (p1 : Nat) (V_e2_56 : cr_Hp) (ha0 : cr_pg a0) (hp1 : cr_pg p1) (hr0 : meth.sig.returnType = none) (x : cr_Hp) (h : f_X3_copyFrom_b56 a0 p1 V_e2_56 = some x) : cr_J w 5 p l e rm_X3_copyFrom s m args below meth c 0 0 (MQ below (cr_Qv w x) args s 0 0 (cr_A w)) V_e2_56 56 [(0, .ref (w.1 a0)), (1, .ref (w.1 p1))] [] := by
  unfold f_X3_copyFrom_b56 at h
  refine jr_iconst X.c (v := (0 : Int32)) dX3_copyFrom_56 (by decide) ?_
  refine jr_istore_n X.c (lv2 := [(2, .int (0 : Int32)), (0, .ref (w.1 a0)), (1, .ref (w.1 p1))]) dX3_copyFrom_57 rfl (by decide) rfl ?_
  obtain ⟨e58, he58, h⟩ := cr_bd_s h
  have kx112 : ∀ (V_e58_112 : cr_Hp), e58 = V_e58_112 → cr_J w 5 p l e rm_X3_copyFrom s m args below meth c 0 0 (MQ below (cr_Qv w x) args s 0 0 (cr_A w)) V_e58_112 112 [(0, .ref (w.1 a0)), (1, .ref (w.1 p1))] [] := by
    intro V_e58_112 qx
    rw [qx] at h
    refine jr_sub [0, 1] rfl ?_
    exact t_X3_copyFrom_b112 X a0 p1 V_e58_112 ha0 hp1 hr0 x  h
  refine jr_sub [1, 2, 0] rfl ?_
  refine cr_it_W (f := (fun (q : Int32 × cr_Hp) => f_X3_copyFrom_l58 a0 p1 q.1 q.2)) (P := fun (q : Int32 × cr_Hp) => cr_J w 5 p l e rm_X3_copyFrom s m args below meth c 0 0 (MQ below (cr_Qv w x) args s 0 0 (cr_A w)) q.2 58 [(0, .ref (w.1 a0)), (1, .ref (w.1 p1)), (2, .int q.1)] []) (K := fun z => z = e58) (fun q x hx kl kr => ?_) cr_FU ((0 : Int32), V_e2_56) e58 he58 rfl
  obtain ⟨x2_58, V_l58⟩ := q
  exact t_X3_copyFrom_l58 X a0 p1 x2_58 V_l58 ha0 hp1 x hx (fun x2_58 V_l58 ez => kl _ ez) (fun V_e58_112 ez => kx112 V_e58_112 ((kr _ ez).symm))
def f_X3_copyFrom (a0 : Nat) (p1 : Nat) (V : cr_Hp) : Option (cr_Hp) :=
  cr_bd (cr_it (fun (q : Int32 × cr_Hp) => f_X3_copyFrom_l2 a0 p1 q.1 q.2) cr_FU ((0 : Int32), V)) (fun (V_e2_56 : cr_Hp) => f_X3_copyFrom_b56 a0 p1 V_e2_56)
set_option maxRecDepth 100000 in
set_option maxHeartbeats 4000000 in
theorem t_X3_copyFrom {p : Program} {l : Launch} {e : Env} {s : State} {m : MethodId} {args : Array Value} {below : List Frame} {meth : Method} {c : Code} {w : cr_Wd} (X : cr_Cx w RX3 (Cond.code yX3_copyFrom cX3_copyFrom 5 none) cX3_copyFrom 5 p s m args meth c) (a0 : Nat) (p1 : Nat) (V : cr_Hp) (ha0 : cr_pg a0) (hp1 : cr_pg p1) (hr0 : meth.sig.returnType = none) (x : cr_Hp) (h : f_X3_copyFrom a0 p1 V = some x) : cr_J w 5 p l e rm_X3_copyFrom s m args below meth c 0 0 (MQ below (cr_Qv w x) args s 0 0 (cr_A w)) V 0 [(0, .ref (w.1 a0)), (1, .ref (w.1 p1))] [] := by
  unfold f_X3_copyFrom at h
  refine jr_iconst X.c (v := (0 : Int32)) dX3_copyFrom_0 (by decide) ?_
  refine jr_istore_n X.c (lv2 := [(2, .int (0 : Int32)), (0, .ref (w.1 a0)), (1, .ref (w.1 p1))]) dX3_copyFrom_1 rfl (by decide) rfl ?_
  obtain ⟨e2, he2, h⟩ := cr_bd_s h
  have kx56 : ∀ (V_e2_56 : cr_Hp), e2 = V_e2_56 → cr_J w 5 p l e rm_X3_copyFrom s m args below meth c 0 0 (MQ below (cr_Qv w x) args s 0 0 (cr_A w)) V_e2_56 56 [(0, .ref (w.1 a0)), (1, .ref (w.1 p1))] [] := by
    intro V_e2_56 qx
    rw [qx] at h
    refine jr_sub [0, 1] rfl ?_
    exact t_X3_copyFrom_b56 X a0 p1 V_e2_56 ha0 hp1 hr0 x  h
  refine jr_sub [1, 2, 0] rfl ?_
  refine cr_it_W (f := (fun (q : Int32 × cr_Hp) => f_X3_copyFrom_l2 a0 p1 q.1 q.2)) (P := fun (q : Int32 × cr_Hp) => cr_J w 5 p l e rm_X3_copyFrom s m args below meth c 0 0 (MQ below (cr_Qv w x) args s 0 0 (cr_A w)) q.2 2 [(0, .ref (w.1 a0)), (1, .ref (w.1 p1)), (2, .int q.1)] []) (K := fun z => z = e2) (fun q x hx kl kr => ?_) cr_FU ((0 : Int32), V) e2 he2 rfl
  obtain ⟨x2_2, V_l2⟩ := q
  exact t_X3_copyFrom_l2 X a0 p1 x2_2 V_l2 ha0 hp1 x hx (fun x2_2 V_l2 ez => kl _ ez) (fun V_e2_56 ez => kx56 V_e2_56 ((kr _ ez).symm))
set_option maxRecDepth 100000 in
set_option maxHeartbeats 4000000 in
theorem m_X3_copyFrom (l : Launch) (w : cr_Wd) (V : cr_Hp) (a0 : Nat) (p1 : Nat) (ha0 : cr_pg a0) (hp1 : cr_pg p1) (x : cr_Hp) (h : f_X3_copyFrom a0 p1 V = some x) : Met l yX3_copyFrom (cr_wds yX3_copyFrom cX3_copyFrom 5 none) rm_X3_copyFrom (cr_Pc w V [.ref (w.1 a0), .ref (w.1 p1)]) (cr_Qv w x) 0 0 (cr_A w) := by
  refine cr_met (own := RX3) (lv := [(0, .ref (w.1 a0)), (1, .ref (w.1 p1))]) (by decide +kernel) rfl (Nat.le_of_ble_eq_true rfl) rfl (fun p e s m args below meth c X hr0 => ?_)
  exact t_X3_copyFrom X a0 p1 V ha0 hp1 hr0 x h
abbrev rm_X0_save : Room := { frames := 2, cells := 0, slots := 0, locals := 45 }
theorem hd_X0_save : yX0_save.cls = RX0 ∧ yX0_save.cls ≠ "java/lang/invoke/MethodHandle" ∧ yX0_save.cls ≠ "java/lang/invoke/VarHandle" ∧ (parseMethodDescriptor yX0_save.desc).map (fun d => d.parameters.length) = some 1 := by decide +kernel
def f_X0_save_b27 (p1 : Nat) (V_27 : cr_Hp) : Option (cr_Hp) :=
  cr_bd (f_X0_slotOf (V_27 154 2) V_27) (fun (r32 : Option Nat) => cr_on r32 (some V_27) (fun (a32 : Nat) => cr_gd (cr_pg a32) (cr_bd (f_X3_copyFrom a32 p1 V_27) (fun (V42 : cr_Hp) => cr_lt (cr_pt V42 154 2 ((V42 154 2) + (1 : Int32))) (fun (V52 : cr_Hp) => some V52)))))
set_option maxRecDepth 100000 in
set_option maxHeartbeats 4000000 in
theorem t_X0_save_b27 {p : Program} {l : Launch} {e : Env} {s : State} {m : MethodId} {args : Array Value} {below : List Frame} {meth : Method} {c : Code} {w : cr_Wd} (X : cr_Cx w RX0 (Cond.code yX0_save cX0_save 3 none) cX0_save 3 p s m args meth c) (p1 : Nat) (V_27 : cr_Hp) (hp1 : cr_pg p1) (hr0 : meth.sig.returnType = none) (x : cr_Hp) (h : f_X0_save_b27 p1 V_27 = some x) : cr_J w 3 p l e rm_X0_save s m args below meth c 0 0 (MQ below (cr_Qv w x) args s 0 0 (cr_A w)) V_27 27 [(0, .ref (w.1 154)), (1, .ref (w.1 p1))] [] := by
  unfold f_X0_save_b27 at h
  refine jr_aload_n X.c dX0_save_27 rfl 0 rfl ?_
  refine jr_aload_n X.c dX0_save_28 rfl 0 rfl ?_
  refine jr_get X.c (ci := 0) (C := RX0) (T := TX0) (N := 3) (k := 2) rfl cr_in0 (Or.inl (by decide)) ((cr_row_154 w) _) rfl (by decide) fl_X0_18 dX0_save_29 ?_
  obtain ⟨r32, hr32, h⟩ := cr_bd_s h
  refine jc_Ve X.c (As := [.int (V_27 154 2)]) (V1 := V_27) (C := RX0) (T := TX0) (N := 3) (ci := 0) 1 (m_X0_slotOf l w V_27 (V_27 154 2)  r32 hr32) ⟨rfl, rfl⟩ ml_X0_25 im_X0_slotOf sl_X0_slotOf in_X0 cd_X0_slotOf hd_X0_slotOf ⟨Nat.le_of_ble_eq_true rfl, Nat.le_of_ble_eq_true rfl⟩ ⟨Nat.le_of_ble_eq_true rfl, Nat.le_of_ble_eq_true rfl⟩ rfl (Nat.le_of_ble_eq_true rfl) (Or.inl (by decide)) ((cr_row_154 w) _) rfl rfl dX0_save_32 (fun eq32 => ?_) (fun a32 eq32 => ?_)
  · subst eq32
    replace h := cr_on_n h
    refine jr_astore_nN X.c (lv2 := [(2, .null), (0, .ref (w.1 154)), (1, .ref (w.1 p1))]) dX0_save_35 rfl (by decide) rfl ?_
    refine jr_aload_nN X.c dX0_save_36 rfl 0 rfl ?_
    refine jr_ifnullN X.c 55 dX0_save_37 (by decide) ?_
    cases h
    exact jr_vret X.c hr0 dX0_save_55
  · subst eq32
    replace h := cr_on_s h
    obtain ⟨ha32, h⟩ := cr_gd_s h
    refine jr_astore_n X.c (lv2 := [(2, .ref (w.1 a32)), (0, .ref (w.1 154)), (1, .ref (w.1 p1))]) dX0_save_35 rfl (by decide) rfl ?_
    refine jr_aload_n X.c dX0_save_36 rfl 0 rfl ?_
    refine jr_ifnullR X.c dX0_save_37 ?_
    refine jr_aload_n X.c dX0_save_40 rfl 0 rfl ?_
    refine jr_aload_n X.c dX0_save_41 rfl 2 rfl ?_
    obtain ⟨V42, hr42, h⟩ := cr_bd_s h
    refine jc_Vv X.c (As := [.ref (w.1 p1)]) (V1 := V42) (C := RX3) (T := TX3) (N := 10) (ci := 3) 1 (m_X3_copyFrom l w V_27 a32 p1 ha32 hp1 V42 hr42) ⟨rfl, rfl⟩ ml_X0_29 im_X3_copyFrom sl_X3_copyFrom in_X3 cd_X3_copyFrom hd_X3_copyFrom ⟨Nat.le_of_ble_eq_true rfl, Nat.le_of_ble_eq_true rfl⟩ ⟨Nat.le_of_ble_eq_true rfl, Nat.le_of_ble_eq_true rfl⟩ rfl (Nat.le_of_ble_eq_true rfl) (cr_l_pg ha32) ((cr_row_pg w ha32) _) rfl rfl dX0_save_42 ?_
    refine jr_aload_n X.c dX0_save_45 rfl 1 rfl ?_
    refine jr_dup X.c dX0_save_46 rfl ?_
    refine jr_get X.c (ci := 0) (C := RX0) (T := TX0) (N := 3) (k := 2) rfl cr_in0 (Or.inl (by decide)) ((cr_row_154 w) _) rfl (by decide) fl_X0_18 dX0_save_47 ?_
    refine jr_iconst X.c (v := (1 : Int32)) dX0_save_50 (by decide) ?_
    refine jr_iadd X.c dX0_save_51 ?_
    obtain ⟨V52, eV52, h⟩ := cr_lt_s h
    refine jr_put X.c (ci := 0) (C := RX0) (T := TX0) (N := 3) (k := 2) rfl cr_in0 tyX0 tyX0_ok nmX0 (Or.inl (by decide)) (cr_row_154 w) rfl (Nat.le_of_ble_eq_true rfl) (by decide) rfl rfl rfl fl_X0_18 dX0_save_52 eV52 ?_
    cases h
    exact jr_vret X.c hr0 dX0_save_55
def f_X0_save (p1 : Nat) (V : cr_Hp) : Option (cr_Hp) :=
  if (V 154 2) < (6 : Int32) then (f_X0_save_b27 p1 V) else (cr_lt (cr_pt V 154 1 (((V 154 1) + (1 : Int32)) - ((V 154 1) + (1 : Int32)) / (6 : Int32) * (6 : Int32))) (fun (V19 : cr_Hp) => cr_lt (cr_pt V19 154 2 (5 : Int32)) (fun (V24 : cr_Hp) => f_X0_save_b27 p1 V24)))
set_option maxRecDepth 100000 in
set_option maxHeartbeats 4000000 in
theorem t_X0_save {p : Program} {l : Launch} {e : Env} {s : State} {m : MethodId} {args : Array Value} {below : List Frame} {meth : Method} {c : Code} {w : cr_Wd} (X : cr_Cx w RX0 (Cond.code yX0_save cX0_save 3 none) cX0_save 3 p s m args meth c) (p1 : Nat) (V : cr_Hp) (hp1 : cr_pg p1) (hr0 : meth.sig.returnType = none) (x : cr_Hp) (h : f_X0_save p1 V = some x) : cr_J w 3 p l e rm_X0_save s m args below meth c 0 0 (MQ below (cr_Qv w x) args s 0 0 (cr_A w)) V 0 [(0, .ref (w.1 154)), (1, .ref (w.1 p1))] [] := by
  unfold f_X0_save at h
  refine jr_aload_n X.c dX0_save_0 rfl 0 rfl ?_
  refine jr_get X.c (ci := 0) (C := RX0) (T := TX0) (N := 3) (k := 2) rfl cr_in0 (Or.inl (by decide)) ((cr_row_154 w) _) rfl (by decide) fl_X0_18 dX0_save_1 ?_
  refine jr_bipush X.c (v := (6 : Int32)) dX0_save_4 (by decide) ?_
  refine jr_icmp_lt X.c 27 dX0_save_6 (by decide) (fun q6 => ?_) (fun q6 => ?_)
  · replace h := cr_if_t q6 h
    refine jr_sub [0, 1] rfl ?_
    exact t_X0_save_b27 X p1 V hp1 hr0 x  h
  · replace h := cr_if_f q6 h
    refine jr_aload_n X.c dX0_save_9 rfl 0 rfl ?_
    refine jr_aload_n X.c dX0_save_10 rfl 0 rfl ?_
    refine jr_get X.c (ci := 0) (C := RX0) (T := TX0) (N := 3) (k := 1) rfl cr_in0 (Or.inl (by decide)) ((cr_row_154 w) _) rfl (by decide) fl_X0_22 dX0_save_11 ?_
    refine jr_iconst X.c (v := (1 : Int32)) dX0_save_14 (by decide) ?_
    refine jr_iadd X.c dX0_save_15 ?_
    refine jr_bipush X.c (v := (6 : Int32)) dX0_save_16 (by decide) ?_
    refine jr_irem X.c dX0_save_18 (by decide) ?_
    obtain ⟨V19, eV19, h⟩ := cr_lt_s h
    refine jr_put X.c (ci := 0) (C := RX0) (T := TX0) (N := 3) (k := 1) rfl cr_in0 tyX0 tyX0_ok nmX0 (Or.inl (by decide)) (cr_row_154 w) rfl (Nat.le_of_ble_eq_true rfl) (by decide) rfl rfl rfl fl_X0_22 dX0_save_19 eV19 ?_
    refine jr_aload_n X.c dX0_save_22 rfl 0 rfl ?_
    refine jr_iconst X.c (v := (5 : Int32)) dX0_save_23 (by decide) ?_
    obtain ⟨V24, eV24, h⟩ := cr_lt_s h
    refine jr_put X.c (ci := 0) (C := RX0) (T := TX0) (N := 3) (k := 2) rfl cr_in0 tyX0 tyX0_ok nmX0 (Or.inl (by decide)) (cr_row_154 w) rfl (Nat.le_of_ble_eq_true rfl) (by decide) rfl rfl rfl fl_X0_18 dX0_save_24 eV24 ?_
    refine jr_sub [0, 1] rfl ?_
    exact t_X0_save_b27 X p1 V24 hp1 hr0 x  h
set_option maxRecDepth 100000 in
set_option maxHeartbeats 4000000 in
theorem m_X0_save (l : Launch) (w : cr_Wd) (V : cr_Hp) (p1 : Nat) (hp1 : cr_pg p1) (x : cr_Hp) (h : f_X0_save p1 V = some x) : Met l yX0_save (cr_wds yX0_save cX0_save 3 none) rm_X0_save (cr_Pc w V [.ref (w.1 154), .ref (w.1 p1)]) (cr_Qv w x) 0 0 (cr_A w) := by
  refine cr_met (own := RX0) (lv := [(0, .ref (w.1 154)), (1, .ref (w.1 p1))]) (by decide +kernel) rfl (Nat.le_of_ble_eq_true rfl) rfl (fun p e s m args below meth c X hr0 => ?_)
  exact t_X0_save X p1 V hp1 hr0 x h
abbrev rm_X3_addMarble : Room := { frames := 0, cells := 0, slots := 0, locals := 0 }
theorem hd_X3_addMarble : yX3_addMarble.cls = RX3 ∧ yX3_addMarble.cls ≠ "java/lang/invoke/MethodHandle" ∧ yX3_addMarble.cls ≠ "java/lang/invoke/VarHandle" ∧ (parseMethodDescriptor yX3_addMarble.desc).map (fun d => d.parameters.length) = some 4 := by decide +kernel
def f_X3_addMarble (a0 : Nat) (x1 : Int32) (x2 : Int32) (x3 : Int32) (x4 : Int32) (V : cr_Hp) : Option (Int32 × cr_Hp) :=
  if (V a0 2) < 0 then (some ((-1004 : Int32), V)) else (if (V a0 2) < (12 : Int32) then (cr_gd (cr_ix (V a0 2) 12) (cr_lt (cr_pt V ((a0 + 1) + 2 + (V a0 2).toNatClampNeg) 1 x1) (fun (V46 : cr_Hp) => cr_lt (cr_pt V46 ((a0 + 1) + 2 + (V a0 2).toNatClampNeg) 2 x2) (fun (V52 : cr_Hp) => cr_lt (cr_pt V52 ((a0 + 1) + 2 + (V a0 2).toNatClampNeg) 3 x3) (fun (V58 : cr_Hp) => cr_lt (cr_pt V58 ((a0 + 1) + 2 + (V a0 2).toNatClampNeg) 4 x4) (fun (V65 : cr_Hp) => cr_lt (cr_pt V65 ((a0 + 1) + 2 + (V a0 2).toNatClampNeg) 5 (-1 : Int32)) (fun (V71 : cr_Hp) => cr_lt (cr_pt V71 ((a0 + 1) + 2 + (V a0 2).toNatClampNeg) 6 (1 : Int32)) (fun (V77 : cr_Hp) => cr_lt (cr_pt V77 a0 2 ((V77 a0 2) + (1 : Int32))) (fun (V87 : cr_Hp) => some ((V87 ((a0 + 1) + 2 + (V a0 2).toNatClampNeg) 0), V87)))))))))) else (some ((-1004 : Int32), V)))
set_option maxRecDepth 100000 in
set_option maxHeartbeats 4000000 in
theorem t_X3_addMarble {p : Program} {l : Launch} {e : Env} {s : State} {m : MethodId} {args : Array Value} {below : List Frame} {meth : Method} {c : Code} {w : cr_Wd} (X : cr_Cx w RX3 (Cond.code yX3_addMarble cX3_addMarble 6 (some .int)) cX3_addMarble 6 p s m args meth c) (a0 : Nat) (x1 : Int32) (x2 : Int32) (x3 : Int32) (x4 : Int32) (V : cr_Hp) (ha0 : cr_pg a0) (hr0 : meth.sig.returnType = (some .int)) (x : Int32 × cr_Hp) (h : f_X3_addMarble a0 x1 x2 x3 x4 V = some x) : cr_J w 6 p l e rm_X3_addMarble s m args below meth c 0 0 (MQ below (cr_Qi w x.2 x.1) args s 0 0 (cr_A w)) V 0 [(0, .ref (w.1 a0)), (1, .int x1), (2, .int x2), (3, .int x3), (4, .int x4)] [] := by
  unfold f_X3_addMarble at h
  refine jr_aload_n X.c dX3_addMarble_0 rfl 0 rfl ?_
  refine jr_get X.c (ci := 3) (C := RX3) (T := TX3) (N := 10) (k := 2) rfl cr_in3 (cr_l_pg ha0) ((cr_row_pg w ha0) _) rfl (by decide) fl_X3_34 dX3_addMarble_1 ?_
  refine jr_if_lt X.c 19 dX3_addMarble_4 (by decide) (fun q4 => ?_) (fun q4 => ?_)
  · replace h := cr_if_t q4 h
    refine jr_sipush X.c (v := (-1004 : Int32)) dX3_addMarble_19 (by decide) ?_
    cases h
    exact jr_iret X.c hr0 dX3_addMarble_22
  · replace h := cr_if_f q4 h
    refine jr_aload_n X.c dX3_addMarble_7 rfl 0 rfl ?_
    refine jr_get X.c (ci := 3) (C := RX3) (T := TX3) (N := 10) (k := 2) rfl cr_in3 (cr_l_pg ha0) ((cr_row_pg w ha0) _) rfl (by decide) fl_X3_34 dX3_addMarble_8 ?_
    refine jr_aload_n X.c dX3_addMarble_11 rfl 0 rfl ?_
    refine jr_get X.c (ci := 3) (C := RX3) (T := TX3) (N := 10) (k := 0) rfl cr_in3 (cr_l_pg ha0) ((cr_row_pg w ha0) _) rfl (by decide) fl_X3_11 dX3_addMarble_12 ?_
    refine jr_alen X.c (v := (12 : Int32)) 2 rfl (cr_l_ms (cr_pg_ms ha0)) ((cr_row_ms w (cr_pg_ms ha0)) _) rfl dX3_addMarble_15 ?_
    refine jr_icmp_lt X.c 23 dX3_addMarble_16 (by decide) (fun q16 => ?_) (fun q16 => ?_)
    · replace h := cr_if_t q16 h
      refine jr_aload_n X.c dX3_addMarble_23 rfl 0 rfl ?_
      refine jr_get X.c (ci := 3) (C := RX3) (T := TX3) (N := 10) (k := 0) rfl cr_in3 (cr_l_pg ha0) ((cr_row_pg w ha0) _) rfl (by decide) fl_X3_11 dX3_addMarble_24 ?_
      refine jr_aload_n X.c dX3_addMarble_27 rfl 0 rfl ?_
      refine jr_get X.c (ci := 3) (C := RX3) (T := TX3) (N := 10) (k := 2) rfl cr_in3 (cr_l_pg ha0) ((cr_row_pg w ha0) _) rfl (by decide) fl_X3_34 dX3_addMarble_28 ?_
      obtain ⟨hi31, h⟩ := cr_gd_s h
      refine jr_aald X.c (f := (fun j => (a0 + 1) + 2 + j)) 2 rfl (cr_l_ms (cr_pg_ms ha0)) ((cr_row_ms w (cr_pg_ms ha0)) _) hi31 dX3_addMarble_31 ?_
      refine jr_astore X.c (lv2 := [(5, .ref (w.1 ((a0 + 1) + 2 + (V a0 2).toNatClampNeg))), (0, .ref (w.1 a0)), (1, .int x1), (2, .int x2), (3, .int x3), (4, .int x4)]) dX3_addMarble_32 (by decide) rfl ?_
      refine jr_aload X.c dX3_addMarble_34 0 rfl ?_
      refine jr_ifnonnullR X.c 43 dX3_addMarble_36 (by decide) ?_
      refine jr_aload X.c dX3_addMarble_43 0 rfl ?_
      refine jr_iload_n X.c dX3_addMarble_45 rfl 2 rfl ?_
      obtain ⟨V46, eV46, h⟩ := cr_lt_s h
      refine jr_put X.c (ci := 2) (C := RX2) (T := TX2) (N := 9) (k := 1) rfl cr_in2 tyX2 tyX2_ok nmX2 (cr_l_ma (cr_ms_ma (cr_pg_ms ha0) (cr_ix_lt hi31))) (cr_row_ma w (cr_ms_ma (cr_pg_ms ha0) (cr_ix_lt hi31))) rfl (Nat.le_of_ble_eq_true rfl) (by decide) rfl rfl rfl fl_X3_81 dX3_addMarble_46 eV46 ?_
      refine jr_aload X.c dX3_addMarble_49 0 rfl ?_
      refine jr_iload_n X.c dX3_addMarble_51 rfl 3 rfl ?_
      obtain ⟨V52, eV52, h⟩ := cr_lt_s h
      refine jr_put X.c (ci := 2) (C := RX2) (T := TX2) (N := 9) (k := 2) rfl cr_in2 tyX2 tyX2_ok nmX2 (cr_l_ma (cr_ms_ma (cr_pg_ms ha0) (cr_ix_lt hi31))) (cr_row_ma w (cr_ms_ma (cr_pg_ms ha0) (cr_ix_lt hi31))) rfl (Nat.le_of_ble_eq_true rfl) (by decide) rfl rfl rfl fl_X3_84 dX3_addMarble_52 eV52 ?_
      refine jr_aload X.c dX3_addMarble_55 0 rfl ?_
      refine jr_iload_n X.c dX3_addMarble_57 rfl 4 rfl ?_
      obtain ⟨V58, eV58, h⟩ := cr_lt_s h
      refine jr_put X.c (ci := 2) (C := RX2) (T := TX2) (N := 9) (k := 3) rfl cr_in2 tyX2 tyX2_ok nmX2 (cr_l_ma (cr_ms_ma (cr_pg_ms ha0) (cr_ix_lt hi31))) (cr_row_ma w (cr_ms_ma (cr_pg_ms ha0) (cr_ix_lt hi31))) rfl (Nat.le_of_ble_eq_true rfl) (by decide) rfl rfl rfl fl_X3_87 dX3_addMarble_58 eV58 ?_
      refine jr_aload X.c dX3_addMarble_61 0 rfl ?_
      refine jr_iload X.c dX3_addMarble_63 5 rfl ?_
      obtain ⟨V65, eV65, h⟩ := cr_lt_s h
      refine jr_put X.c (ci := 2) (C := RX2) (T := TX2) (N := 9) (k := 4) rfl cr_in2 tyX2 tyX2_ok nmX2 (cr_l_ma (cr_ms_ma (cr_pg_ms ha0) (cr_ix_lt hi31))) (cr_row_ma w (cr_ms_ma (cr_pg_ms ha0) (cr_ix_lt hi31))) rfl (Nat.le_of_ble_eq_true rfl) (by decide) rfl rfl rfl fl_X3_90 dX3_addMarble_65 eV65 ?_
      refine jr_aload X.c dX3_addMarble_68 0 rfl ?_
      refine jr_iconst X.c (v := (-1 : Int32)) dX3_addMarble_70 (by decide) ?_
      obtain ⟨V71, eV71, h⟩ := cr_lt_s h
      refine jr_put X.c (ci := 2) (C := RX2) (T := TX2) (N := 9) (k := 5) rfl cr_in2 tyX2 tyX2_ok nmX2 (cr_l_ma (cr_ms_ma (cr_pg_ms ha0) (cr_ix_lt hi31))) (cr_row_ma w (cr_ms_ma (cr_pg_ms ha0) (cr_ix_lt hi31))) rfl (Nat.le_of_ble_eq_true rfl) (by decide) rfl rfl rfl fl_X3_63 dX3_addMarble_71 eV71 ?_
      refine jr_aload X.c dX3_addMarble_74 0 rfl ?_
      refine jr_iconst X.c (v := (1 : Int32)) dX3_addMarble_76 (by decide) ?_
      obtain ⟨V77, eV77, h⟩ := cr_lt_s h
      refine jr_put X.c (ci := 2) (C := RX2) (T := TX2) (N := 9) (k := 6) rfl cr_in2 tyX2 tyX2_ok nmX2 (cr_l_ma (cr_ms_ma (cr_pg_ms ha0) (cr_ix_lt hi31))) (cr_row_ma w (cr_ms_ma (cr_pg_ms ha0) (cr_ix_lt hi31))) rfl (Nat.le_of_ble_eq_true rfl) (by decide) rfl (by decide) (by decide) fl_X3_59 dX3_addMarble_77 eV77 ?_
      refine jr_aload_n X.c dX3_addMarble_80 rfl 1 rfl ?_
      refine jr_dup X.c dX3_addMarble_81 rfl ?_
      refine jr_get X.c (ci := 3) (C := RX3) (T := TX3) (N := 10) (k := 2) rfl cr_in3 (cr_l_pg ha0) ((cr_row_pg w ha0) _) rfl (by decide) fl_X3_34 dX3_addMarble_82 ?_
      refine jr_iconst X.c (v := (1 : Int32)) dX3_addMarble_85 (by decide) ?_
      refine jr_iadd X.c dX3_addMarble_86 ?_
      obtain ⟨V87, eV87, h⟩ := cr_lt_s h
      refine jr_put X.c (ci := 3) (C := RX3) (T := TX3) (N := 10) (k := 2) rfl cr_in3 tyX3 tyX3_ok nmX3 (cr_l_pg ha0) (cr_row_pg w ha0) rfl (Nat.le_of_ble_eq_true rfl) (by decide) rfl rfl rfl fl_X3_34 dX3_addMarble_87 eV87 ?_
      refine jr_aload X.c dX3_addMarble_90 0 rfl ?_
      refine jr_get X.c (ci := 2) (C := RX2) (T := TX2) (N := 9) (k := 0) rfl cr_in2 (cr_l_ma (cr_ms_ma (cr_pg_ms ha0) (cr_ix_lt hi31))) ((cr_row_ma w (cr_ms_ma (cr_pg_ms ha0) (cr_ix_lt hi31))) _) rfl (by decide) fl_X3_93 dX3_addMarble_92 ?_
      cases h
      exact jr_iret X.c hr0 dX3_addMarble_95
    · replace h := cr_if_f q16 h
      refine jr_sipush X.c (v := (-1004 : Int32)) dX3_addMarble_19 (by decide) ?_
      cases h
      exact jr_iret X.c hr0 dX3_addMarble_22
set_option maxRecDepth 100000 in
set_option maxHeartbeats 4000000 in
theorem m_X3_addMarble (l : Launch) (w : cr_Wd) (V : cr_Hp) (a0 : Nat) (x1 : Int32) (x2 : Int32) (x3 : Int32) (x4 : Int32) (ha0 : cr_pg a0) (x : Int32 × cr_Hp) (h : f_X3_addMarble a0 x1 x2 x3 x4 V = some x) : Met l yX3_addMarble (cr_wds yX3_addMarble cX3_addMarble 6 (some .int)) rm_X3_addMarble (cr_Pc w V [.ref (w.1 a0), .int x1, .int x2, .int x3, .int x4]) (cr_Qi w x.2 x.1) 0 0 (cr_A w) := by
  refine cr_met (own := RX3) (lv := [(0, .ref (w.1 a0)), (1, .int x1), (2, .int x2), (3, .int x3), (4, .int x4)]) (by decide +kernel) rfl (Nat.le_of_ble_eq_true rfl) rfl (fun p e s m args below meth c X hr0 => ?_)
  exact t_X3_addMarble X a0 x1 x2 x3 x4 V ha0 hr0 x h
abbrev rm_X7_putMarble : Room := { frames := 3, cells := 0, slots := 0, locals := 67 }
theorem hd_X7_putMarble : yX7_putMarble.cls = RX7 ∧ yX7_putMarble.cls ≠ "java/lang/invoke/MethodHandle" ∧ yX7_putMarble.cls ≠ "java/lang/invoke/VarHandle" ∧ (parseMethodDescriptor yX7_putMarble.desc).map (fun d => d.parameters.length) = some 4 := by decide +kernel
def f_X7_putMarble (x1 : Int32) (x2 : Int32) (x3 : Int32) (x4 : Int32) (V : cr_Hp) : Option (Int32 × cr_Hp) :=
  cr_bd (f_X3_refusalOfMarble 0 x1 x2 x3 x4 V) (fun (r9 : Int32) => if r9 = 0 then (cr_bd (f_X0_save 0 V) (fun (V30 : cr_Hp) => cr_b2 (f_X3_addMarble 0 x1 x2 x3 x4 V30) (fun (r42 : Int32) (V42 : cr_Hp) => some (r42, V42)))) else (some (r9, V)))
set_option maxRecDepth 100000 in
set_option maxHeartbeats 4000000 in
theorem t_X7_putMarble {p : Program} {l : Launch} {e : Env} {s : State} {m : MethodId} {args : Array Value} {below : List Frame} {meth : Method} {c : Code} {w : cr_Wd} (X : cr_Cx w RX7 (Cond.code yX7_putMarble cX7_putMarble 6 (some .int)) cX7_putMarble 6 p s m args meth c) (x1 : Int32) (x2 : Int32) (x3 : Int32) (x4 : Int32) (V : cr_Hp)  (hr0 : meth.sig.returnType = (some .int)) (x : Int32 × cr_Hp) (h : f_X7_putMarble x1 x2 x3 x4 V = some x) : cr_J w 6 p l e rm_X7_putMarble s m args below meth c 0 0 (MQ below (cr_Qi w x.2 x.1) args s 0 0 (cr_A w)) V 0 [(0, .ref (w.1 152)), (1, .int x1), (2, .int x2), (3, .int x3), (4, .int x4)] [] := by
  unfold f_X7_putMarble at h
  refine jr_aload_n X.c dX7_putMarble_0 rfl 0 rfl ?_
  refine jr_get X.c (ci := 7) (C := RX7) (T := TX7) (N := 5) (k := 0) rfl cr_in7 (Or.inl (by decide)) ((cr_row_152 w) _) rfl (by decide) fl_X7_10 dX7_putMarble_1 ?_
  refine jr_iload_n X.c dX7_putMarble_4 rfl 1 rfl ?_
  refine jr_iload_n X.c dX7_putMarble_5 rfl 2 rfl ?_
  refine jr_iload_n X.c dX7_putMarble_6 rfl 3 rfl ?_
  refine jr_iload X.c dX7_putMarble_7 4 rfl ?_
  obtain ⟨r9, hr9, h⟩ := cr_bd_s h
  refine jc_Vi X.c (As := [.int x1, .int x2, .int x3, .int x4]) (V1 := V) (C := RX3) (T := TX3) (N := 10) (ci := 3) 4 (m_X3_refusalOfMarble l w V 0 x1 x2 x3 x4 cr_pg0 r9 hr9) ⟨rfl, rfl⟩ ml_X7_40 im_X3_refusalOfMarble sl_X3_refusalOfMarble in_X3 cd_X3_refusalOfMarble hd_X3_refusalOfMarble ⟨Nat.le_of_ble_eq_true rfl, Nat.le_of_ble_eq_true rfl⟩ ⟨Nat.le_of_ble_eq_true rfl, Nat.le_of_ble_eq_true rfl⟩ rfl (Nat.le_of_ble_eq_true rfl) (cr_l_pg cr_pg0) ((cr_row_pg w cr_pg0) _) rfl rfl dX7_putMarble_9 ?_
  refine jr_istore X.c (lv2 := [(5, .int r9), (0, .ref (w.1 152)), (1, .int x1), (2, .int x2), (3, .int x3), (4, .int x4)]) dX7_putMarble_12 (by decide) rfl ?_
  refine jr_iload X.c dX7_putMarble_14 0 rfl ?_
  refine jr_if_eq X.c 22 dX7_putMarble_16 (by decide) (fun q16 => ?_) (fun q16 => ?_)
  · replace h := cr_if_t q16 h
    refine jr_aload_n X.c dX7_putMarble_22 rfl 1 rfl ?_
    refine jr_get X.c (ci := 7) (C := RX7) (T := TX7) (N := 5) (k := 3) rfl cr_in7 (Or.inl (by decide)) ((cr_row_152 w) _) rfl (by decide) fl_X7_29 dX7_putMarble_23 ?_
    refine jr_aload_n X.c dX7_putMarble_26 rfl 1 rfl ?_
    refine jr_get X.c (ci := 7) (C := RX7) (T := TX7) (N := 5) (k := 0) rfl cr_in7 (Or.inl (by decide)) ((cr_row_152 w) _) rfl (by decide) fl_X7_10 dX7_putMarble_27 ?_
    obtain ⟨V30, hr30, h⟩ := cr_bd_s h
    refine jc_Vv X.c (As := [.ref (w.1 0)]) (V1 := V30) (C := RX0) (T := TX0) (N := 3) (ci := 0) 1 (m_X0_save l w V 0 cr_pg0 V30 hr30) ⟨rfl, rfl⟩ ml_X7_44 im_X0_save sl_X0_save in_X0 cd_X0_save hd_X0_save ⟨Nat.le_of_ble_eq_true rfl, Nat.le_of_ble_eq_true rfl⟩ ⟨Nat.le_of_ble_eq_true rfl, Nat.le_of_ble_eq_true rfl⟩ rfl (Nat.le_of_ble_eq_true rfl) (Or.inl (by decide)) ((cr_row_154 w) _) rfl rfl dX7_putMarble_30 ?_
    refine jr_aload_n X.c dX7_putMarble_33 rfl 1 rfl ?_
    refine jr_get X.c (ci := 7) (C := RX7) (T := TX7) (N := 5) (k := 0) rfl cr_in7 (Or.inl (by decide)) ((cr_row_152 w) _) rfl (by decide) fl_X7_10 dX7_putMarble_34 ?_
    refine jr_iload_n X.c dX7_putMarble_37 rfl 2 rfl ?_
    refine jr_iload_n X.c dX7_putMarble_38 rfl 3 rfl ?_
    refine jr_iload_n X.c dX7_putMarble_39 rfl 4 rfl ?_
    refine jr_iload X.c dX7_putMarble_40 5 rfl ?_
    obtain ⟨r42, V42, hr42, h⟩ := cr_b2_s h
    refine jc_Vi X.c (As := [.int x1, .int x2, .int x3, .int x4]) (V1 := V42) (C := RX3) (T := TX3) (N := 10) (ci := 3) 4 (m_X3_addMarble l w V30 0 x1 x2 x3 x4 cr_pg0 (r42, V42) hr42) ⟨rfl, rfl⟩ ml_X7_48 im_X3_addMarble sl_X3_addMarble in_X3 cd_X3_addMarble hd_X3_addMarble ⟨Nat.le_of_ble_eq_true rfl, Nat.le_of_ble_eq_true rfl⟩ ⟨Nat.le_of_ble_eq_true rfl, Nat.le_of_ble_eq_true rfl⟩ rfl (Nat.le_of_ble_eq_true rfl) (cr_l_pg cr_pg0) ((cr_row_pg w cr_pg0) _) rfl rfl dX7_putMarble_42 ?_
    cases h
    exact jr_iret X.c hr0 dX7_putMarble_45
  · replace h := cr_if_f q16 h
    refine jr_iload X.c dX7_putMarble_19 0 rfl ?_
    cases h
    exact jr_iret X.c hr0 dX7_putMarble_21
set_option maxRecDepth 100000 in
set_option maxHeartbeats 4000000 in
theorem m_X7_putMarble (l : Launch) (w : cr_Wd) (V : cr_Hp) (x1 : Int32) (x2 : Int32) (x3 : Int32) (x4 : Int32)  (x : Int32 × cr_Hp) (h : f_X7_putMarble x1 x2 x3 x4 V = some x) : Met l yX7_putMarble (cr_wds yX7_putMarble cX7_putMarble 6 (some .int)) rm_X7_putMarble (cr_Pc w V [.ref (w.1 152), .int x1, .int x2, .int x3, .int x4]) (cr_Qi w x.2 x.1) 0 0 (cr_A w) := by
  refine cr_met (own := RX7) (lv := [(0, .ref (w.1 152)), (1, .int x1), (2, .int x2), (3, .int x3), (4, .int x4)]) (by decide +kernel) rfl (Nat.le_of_ble_eq_true rfl) rfl (fun p e s m args below meth c X hr0 => ?_)
  exact t_X7_putMarble X x1 x2 x3 x4 V  hr0 x h
abbrev rm_X3_refusalOfRing : Room := { frames := 1, cells := 0, slots := 0, locals := 21 }
theorem hd_X3_refusalOfRing : yX3_refusalOfRing.cls = RX3 ∧ yX3_refusalOfRing.cls ≠ "java/lang/invoke/MethodHandle" ∧ yX3_refusalOfRing.cls ≠ "java/lang/invoke/VarHandle" ∧ (parseMethodDescriptor yX3_refusalOfRing.desc).map (fun d => d.parameters.length) = some 3 := by decide +kernel
def f_X3_refusalOfRing (a0 : Nat) (x1 : Int32) (x2 : Int32) (x3 : Int32) (V : cr_Hp) : Option (Int32) :=
  cr_bd (f_X7_isPoint x1 x2) (fun (r2 : Int32) => if r2 = 0 then (some (-1001 : Int32)) else (if x3 < (1 : Int32) then (some (-1002 : Int32)) else (if x3 ≤ (15 : Int32) then (if (V a0 3) < (4 : Int32) then (some (0 : Int32)) else (some (-1004 : Int32))) else (some (-1002 : Int32)))))
set_option maxRecDepth 100000 in
set_option maxHeartbeats 4000000 in
theorem t_X3_refusalOfRing {p : Program} {l : Launch} {e : Env} {s : State} {m : MethodId} {args : Array Value} {below : List Frame} {meth : Method} {c : Code} {w : cr_Wd} (X : cr_Cx w RX3 (Cond.code yX3_refusalOfRing cX3_refusalOfRing 4 (some .int)) cX3_refusalOfRing 4 p s m args meth c) (a0 : Nat) (x1 : Int32) (x2 : Int32) (x3 : Int32) (V : cr_Hp) (ha0 : cr_pg a0) (hr0 : meth.sig.returnType = (some .int)) (x : Int32) (h : f_X3_refusalOfRing a0 x1 x2 x3 V = some x) : cr_J w 4 p l e rm_X3_refusalOfRing s m args below meth c 0 0 (MQ below (cr_Qi w V x) args s 0 0 (cr_A w)) V 0 [(0, .ref (w.1 a0)), (1, .int x1), (2, .int x2), (3, .int x3)] [] := by
  unfold f_X3_refusalOfRing at h
  refine jr_iload_n X.c dX3_refusalOfRing_0 rfl 1 rfl ?_
  refine jr_iload_n X.c dX3_refusalOfRing_1 rfl 2 rfl ?_
  obtain ⟨r2, hr2, h⟩ := cr_bd_s h
  refine jc_Ni X.c (As := [.int x1, .int x2]) (V1 := V) (host := "ChalkRings") 2 (m_X7_isPoint l w V x1 x2  r2 hr2) ⟨rfl, rfl⟩ (by decide) st_X7_isPoint in_X7 cd_X7_isPoint hd_X7_isPoint ⟨Nat.le_of_ble_eq_true rfl, Nat.le_of_ble_eq_true rfl⟩ ⟨Nat.le_of_ble_eq_true rfl, Nat.le_of_ble_eq_true rfl⟩ rfl (Nat.le_of_ble_eq_true rfl) rfl dX3_refusalOfRing_2 ?_
  refine jr_if_ne X.c 12 dX3_refusalOfRing_5 (by decide) (fun q5 => ?_) (fun q5 => ?_)
  · replace h := cr_if_f q5 h
    refine jr_iload_n X.c dX3_refusalOfRing_12 rfl 3 rfl ?_
    refine jr_iconst X.c (v := (1 : Int32)) dX3_refusalOfRing_13 (by decide) ?_
    refine jr_icmp_lt X.c 23 dX3_refusalOfRing_14 (by decide) (fun q14 => ?_) (fun q14 => ?_)
    · replace h := cr_if_t q14 h
      refine jr_sipush X.c (v := (-1002 : Int32)) dX3_refusalOfRing_23 (by decide) ?_
      cases h
      exact jr_iret X.c hr0 dX3_refusalOfRing_26
    · replace h := cr_if_f q14 h
      refine jr_iload_n X.c dX3_refusalOfRing_17 rfl 3 rfl ?_
      refine jr_bipush X.c (v := (15 : Int32)) dX3_refusalOfRing_18 (by decide) ?_
      refine jr_icmp_le X.c 27 dX3_refusalOfRing_20 (by decide) (fun q20 => ?_) (fun q20 => ?_)
      · replace h := cr_if_t q20 h
        refine jr_aload_n X.c dX3_refusalOfRing_27 rfl 0 rfl ?_
        refine jr_get X.c (ci := 3) (C := RX3) (T := TX3) (N := 10) (k := 3) rfl cr_in3 (cr_l_pg ha0) ((cr_row_pg w ha0) _) rfl (by decide) fl_X3_38 dX3_refusalOfRing_28 ?_
        refine jr_iconst X.c (v := (4 : Int32)) dX3_refusalOfRing_31 (by decide) ?_
        refine jr_icmp_lt X.c 41 dX3_refusalOfRing_32 (by decide) (fun q32 => ?_) (fun q32 => ?_)
        · replace h := cr_if_t q32 h
          refine jr_iconst X.c (v := (0 : Int32)) dX3_refusalOfRing_41 (by decide) ?_
          cases h
          exact jr_iret X.c hr0 dX3_refusalOfRing_42
        · replace h := cr_if_f q32 h
          refine jr_sipush X.c (v := (-1004 : Int32)) dX3_refusalOfRing_35 (by decide) ?_
          refine jr_goto X.c 42 dX3_refusalOfRing_38 (by decide) ?_
          cases h
          exact jr_iret X.c hr0 dX3_refusalOfRing_42
      · replace h := cr_if_f q20 h
        refine jr_sipush X.c (v := (-1002 : Int32)) dX3_refusalOfRing_23 (by decide) ?_
        cases h
        exact jr_iret X.c hr0 dX3_refusalOfRing_26
  · replace h := cr_if_t q5 h
    refine jr_sipush X.c (v := (-1001 : Int32)) dX3_refusalOfRing_8 (by decide) ?_
    cases h
    exact jr_iret X.c hr0 dX3_refusalOfRing_11
set_option maxRecDepth 100000 in
set_option maxHeartbeats 4000000 in
theorem m_X3_refusalOfRing (l : Launch) (w : cr_Wd) (V : cr_Hp) (a0 : Nat) (x1 : Int32) (x2 : Int32) (x3 : Int32) (ha0 : cr_pg a0) (x : Int32) (h : f_X3_refusalOfRing a0 x1 x2 x3 V = some x) : Met l yX3_refusalOfRing (cr_wds yX3_refusalOfRing cX3_refusalOfRing 4 (some .int)) rm_X3_refusalOfRing (cr_Pc w V [.ref (w.1 a0), .int x1, .int x2, .int x3]) (cr_Qi w V x) 0 0 (cr_A w) := by
  refine cr_met (own := RX3) (lv := [(0, .ref (w.1 a0)), (1, .int x1), (2, .int x2), (3, .int x3)]) (by decide +kernel) rfl (Nat.le_of_ble_eq_true rfl) rfl (fun p e s m args below meth c X hr0 => ?_)
  exact t_X3_refusalOfRing X a0 x1 x2 x3 V ha0 hr0 x h
