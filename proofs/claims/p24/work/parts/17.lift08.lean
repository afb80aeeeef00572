abbrev rm_L_then : Room := { frames := 3, cells := 6, slots := 109, locals := 90 }
theorem hd_L_then : yL_then.cls ≠ "java/lang/invoke/MethodHandle" ∧ yL_then.cls ≠ "java/lang/invoke/VarHandle" ∧ (parseMethodDescriptor yL_then.desc).map (fun d => d.parameters.length) = some 7 := by decide +kernel
def f_L_then_b60 (a4_ : Nat) (a5_ : Nat) (a6_ : Nat) (a2 : Nat) (a8 : Nat) (a14 : Nat) (a19 : Nat) (x0 : Int32) (x1 : Int32) (x2 : Int32) (x3 : Int32) (x11_26 : Int32) (V_60 : cr_Hp) : Option ((Int32 × cr_Hp) ⊕ cr_Hp) :=
  if (8 : Int32) ≤ x11_26 then (some (.inl ((x11_26 + (1 : Int32)), V_60))) else (cr_gd (cr_ix x11_26 8) (cr_gd (cr_ix x11_26 8) (cr_lt (cr_pt V_60 a2 x11_26.toNatClampNeg (V_60 a4_ x11_26.toNatClampNeg)) (fun (V76 : cr_Hp) => some (.inl ((x11_26 + (1 : Int32)), V76))))))
set_option maxRecDepth 100000 in
set_option maxHeartbeats 4000000 in
theorem t_L_then_b60 {p : Program} {l : Launch} {e : Env} {s : State} {m : MethodId} {args : Array Value} {below : List Frame} {meth : Method} {c : Code} {w : cr_Wd} {Q : State → Prop} (X : cr_Cx w RL (Cond.code yL_then cL_then 12 (some .int)) cL_then 12 p s m args meth c) (a4_ : Nat) (a5_ : Nat) (a6_ : Nat) (a2 : Nat) (a8 : Nat) (a14 : Nat) (a19 : Nat) (x0 : Int32) (x1 : Int32) (x2 : Int32) (x3 : Int32) (x11_26 : Int32) (V_60 : cr_Hp) (ha4_ : cr_iv w 8 a4_) (ha5_ : cr_iv w 60 a5_) (ha6_ : cr_iv w 12 a6_) (ha2 : cr_iv w 8 a2) (ha8 : cr_iv w 60 a8) (ha14 : cr_iv w 12 a14) (ha19 : cr_iv w 5 a19) (x : (Int32 × cr_Hp) ⊕ cr_Hp) (h : f_L_then_b60 a4_ a5_ a6_ a2 a8 a14 a19 x0 x1 x2 x3 x11_26 V_60 = some x) (kl : ∀ (x11_26 : Int32) (V_l26 : cr_Hp), x = .inl (x11_26, V_l26) → cr_J w 12 p l e rm_L_then s m args below meth c 4 85 Q V_l26 26 [(0, .int x0), (1, .int x1), (2, .int x2), (3, .int x3), (4, .ref (w.1 a4_)), (5, .ref (w.1 a5_)), (6, .ref (w.1 a6_)), (7, .ref (w.1 a2)), (8, .ref (w.1 a8)), (9, .ref (w.1 a14)), (10, .ref (w.1 a19)), (11, .int x11_26)] []) (kr83 : ∀ (V_e26_83 : cr_Hp), x = .inr V_e26_83 → cr_J w 12 p l e rm_L_then s m args below meth c 4 85 Q V_e26_83 83 [(0, .int x0), (1, .int x1), (2, .int x2), (3, .int x3), (5, .ref (w.1 a5_)), (7, .ref (w.1 a2)), (8, .ref (w.1 a8)), (9, .ref (w.1 a14)), (10, .ref (w.1 a19))] []) : cr_J w 12 p l e rm_L_then s m args below meth c 4 85 Q V_60 60 [(0, .int x0), (1, .int x1), (2, .int x2), (3, .int x3), (4, .ref (w.1 a4_)), (5, .ref (w.1 a5_)), (6, .ref (w.1 a6_)), (7, .ref (w.1 a2)), (8, .ref (w.1 a8)), (9, .ref (w.1 a14)), (10, .ref (w.1 a19)), (11, .int x11_26)] [] := by
  unfold f_L_then_b60 at h
  refine jr_iload X.c dL_then_60 11 rfl ?_
  refine jr_bipush X.c (v := (8 : Int32)) dL_then_62 (by decide) ?_
  refine jr_icmp_ge X.c 77 dL_then_64 (by decide) (fun q64 => ?_) (fun q64 => ?_)
  · replace h := cr_if_t q64 h
    refine jr_iinc X.c (v := (x11_26 + (1 : Int32))) (lv2 := [(11, .int (x11_26 + (1 : Int32))), (0, .int x0), (1, .int x1), (2, .int x2), (3, .int x3), (4, .ref (w.1 a4_)), (5, .ref (w.1 a5_)), (6, .ref (w.1 a6_)), (7, .ref (w.1 a2)), (8, .ref (w.1 a8)), (9, .ref (w.1 a14)), (10, .ref (w.1 a19))]) dL_then_77 11 rfl (by rfl) (by decide) rfl ?_
    refine jr_goto X.c 26 dL_then_80 (by decide) ?_
    cases h
    refine jr_sub [1, 2, 3, 4, 5, 6, 7, 8, 9, 10, 11, 0] rfl ?_
    exact kl (x11_26 + (1 : Int32)) V_60 rfl
  · replace h := cr_if_f q64 h
    refine jr_aload X.c dL_then_67 7 rfl ?_
    refine jr_iload X.c dL_then_69 11 rfl ?_
    refine jr_aload X.c dL_then_71 4 rfl ?_
    refine jr_iload X.c dL_then_73 11 rfl ?_
    obtain ⟨hi75, h⟩ := cr_gd_s h
    refine jr_iald X.c (cr_l_iv ha4_) ((cr_row_iv ha4_) _) hi75 dL_then_75 ?_
    obtain ⟨hi76, h⟩ := cr_gd_s h
    obtain ⟨V76, eV76, h⟩ := cr_lt_s h
    refine jr_iast X.c (cr_l_iv ha2) (cr_row_iv ha2) hi76 dL_then_76 eV76 ?_
    refine jr_iinc X.c (v := (x11_26 + (1 : Int32))) (lv2 := [(11, .int (x11_26 + (1 : Int32))), (0, .int x0), (1, .int x1), (2, .int x2), (3, .int x3), (4, .ref (w.1 a4_)), (5, .ref (w.1 a5_)), (6, .ref (w.1 a6_)), (7, .ref (w.1 a2)), (8, .ref (w.1 a8)), (9, .ref (w.1 a14)), (10, .ref (w.1 a19))]) dL_then_77 11 rfl (by rfl) (by decide) rfl ?_
    refine jr_goto X.c 26 dL_then_80 (by decide) ?_
    cases h
    refine jr_sub [1, 2, 3, 4, 5, 6, 7, 8, 9, 10, 11, 0] rfl ?_
    exact kl (x11_26 + (1 : Int32)) V76 rfl
def f_L_then_l26 (a4_ : Nat) (a5_ : Nat) (a6_ : Nat) (a2 : Nat) (a8 : Nat) (a14 : Nat) (a19 : Nat) (x0 : Int32) (x1 : Int32) (x2 : Int32) (x3 : Int32) (x11_26 : Int32) (V_l26 : cr_Hp) : Option ((Int32 × cr_Hp) ⊕ cr_Hp) :=
  if (60 : Int32) ≤ x11_26 then (some (.inr V_l26)) else (cr_gd (cr_ix x11_26 60) (cr_gd (cr_ix x11_26 60) (cr_lt (cr_pt V_l26 a8 x11_26.toNatClampNeg (V_l26 a5_ x11_26.toNatClampNeg)) (fun (V42 : cr_Hp) => if (12 : Int32) ≤ x11_26 then (f_L_then_b60 a4_ a5_ a6_ a2 a8 a14 a19 x0 x1 x2 x3 x11_26 V42) else (cr_gd (cr_ix x11_26 12) (cr_gd (cr_ix x11_26 12) (cr_lt (cr_pt V42 a14 x11_26.toNatClampNeg (V42 a6_ x11_26.toNatClampNeg)) (fun (V59 : cr_Hp) => f_L_then_b60 a4_ a5_ a6_ a2 a8 a14 a19 x0 x1 x2 x3 x11_26 V59))))))))
set_option maxRecDepth 100000 in
set_option maxHeartbeats 4000000 in
theorem t_L_then_l26 {p : Program} {l : Launch} {e : Env} {s : State} {m : MethodId} {args : Array Value} {below : List Frame} {meth : Method} {c : Code} {w : cr_Wd} {Q : State → Prop} (X : cr_Cx w RL (Cond.code yL_then cL_then 12 (some .int)) cL_then 12 p s m args meth c) (a4_ : Nat) (a5_ : Nat) (a6_ : Nat) (a2 : Nat) (a8 : Nat) (a14 : Nat) (a19 : Nat) (x0 : Int32) (x1 : Int32) (x2 : Int32) (x3 : Int32) (x11_26 : Int32) (V_l26 : cr_Hp) (ha4_ : cr_iv w 8 a4_) (ha5_ : cr_iv w 60 a5_) (ha6_ : cr_iv w 12 a6_) (ha2 : cr_iv w 8 a2) (ha8 : cr_iv w 60 a8) (ha14 : cr_iv w 12 a14) (ha19 : cr_iv w 5 a19) (x : (Int32 × cr_Hp) ⊕ cr_Hp) (h : f_L_then_l26 a4_ a5_ a6_ a2 a8 a14 a19 x0 x1 x2 x3 x11_26 V_l26 = some x) (kl : ∀ (x11_26 : Int32) (V_l26 : cr_Hp), x = .inl (x11_26, V_l26) → cr_J w 12 p l e rm_L_then s m args below meth c 4 85 Q V_l26 26 [(0, .int x0), (1, .int x1), (2, .int x2), (3, .int x3), (4, .ref (w.1 a4_)), (5, .ref (w.1 a5_)), (6, .ref (w.1 a6_)), (7, .ref (w.1 a2)), (8, .ref (w.1 a8)), (9, .ref (w.1 a14)), (10, .ref (w.1 a19)), (11, .int x11_26)] []) (kr83 : ∀ (V_e26_83 : cr_Hp), x = .inr V_e26_83 → cr_J w 12 p l e rm_L_then s m args below meth c 4 85 Q V_e26_83 83 [(0, .int x0), (1, .int x1), (2, .int x2), (3, .int x3), (5, .ref (w.1 a5_)), (7, .ref (w.1 a2)), (8, .ref (w.1 a8)), (9, .ref (w.1 a14)), (10, .ref (w.1 a19))] []) : cr_J w 12 p l e rm_L_then s m args below meth c 4 85 Q V_l26 26 [(0, .int x0), (1, .int x1), (2, .int x2), (3, .int x3), (4, .ref (w.1 a4_)), (5, .ref (w.1 a5_)), (6, .ref (w.1 a6_)), (7, .ref (w.1 a2)), (8, .ref (w.1 a8)), (9, .ref (w.1 a14)), (10, .ref (w.1 a19)), (11, .int x11_26)] [] := by
  unfold f_L_then_l26 at h
  refine jr_iload X.c dL_then_26 11 rfl ?_
  refine jr_bipush X.c (v := (60 : Int32)) dL_then_28 (by decide) ?_
  refine jr_icmp_ge X.c 83 dL_then_30 (by decide) (fun q30 => ?_) (fun q30 => ?_)
  · replace h := cr_if_t q30 h
    cases h
    refine jr_sub [0, 1, 2, 3, 5, 7, 8, 9, 10] rfl ?_
    exact kr83 V_l26 rfl
  · replace h := cr_if_f q30 h
    refine jr_aload X.c dL_then_33 8 rfl ?_
    refine jr_iload X.c dL_then_35 11 rfl ?_
    refine jr_aload X.c dL_then_37 5 rfl ?_
    refine jr_iload X.c dL_then_39 11 rfl ?_
    obtain ⟨hi41, h⟩ := cr_gd_s h
    refine jr_iald X.c (cr_l_iv ha5_) ((cr_row_iv ha5_) _) hi41 dL_then_41 ?_
    obtain ⟨hi42, h⟩ := cr_gd_s h
    obtain ⟨V42, eV42, h⟩ := cr_lt_s h
    refine jr_iast X.c (cr_l_iv ha8) (cr_row_iv ha8) hi42 dL_then_42 eV42 ?_
    refine jr_iload X.c dL_then_43 11 rfl ?_
    refine jr_bipush X.c (v := (12 : Int32)) dL_then_45 (by decide) ?_
    refine jr_icmp_ge X.c 60 dL_then_47 (by decide) (fun q47 => ?_) (fun q47 => ?_)
    · replace h := cr_if_t q47 h
      refine jr_sub [0, 1, 2, 3, 4, 5, 6, 7, 8, 9, 10, 11] rfl ?_
      exact t_L_then_b60 X a4_ a5_ a6_ a2 a8 a14 a19 x0 x1 x2 x3 x11_26 V42 ha4_ ha5_ ha6_ ha2 ha8 ha14 ha19 x h kl kr83
    · replace h := cr_if_f q47 h
      refine jr_aload X.c dL_then_50 9 rfl ?_
      refine jr_iload X.c dL_then_52 11 rfl ?_
      refine jr_aload X.c dL_then_54 6 rfl ?_
      refine jr_iload X.c dL_then_56 11 rfl ?_
      obtain ⟨hi58, h⟩ := cr_gd_s h
      refine jr_iald X.c (cr_l_iv ha6_) ((cr_row_iv ha6_) _) hi58 dL_then_58 ?_
      obtain ⟨hi59, h⟩ := cr_gd_s h
      obtain ⟨V59, eV59, h⟩ := cr_lt_s h
      refine jr_iast X.c (cr_l_iv ha14) (cr_row_iv ha14) hi59 dL_then_59 eV59 ?_
      refine jr_sub [0, 1, 2, 3, 4, 5, 6, 7, 8, 9, 10, 11] rfl ?_
      exact t_L_then_b60 X a4_ a5_ a6_ a2 a8 a14 a19 x0 x1 x2 x3 x11_26 V59 ha4_ ha5_ ha6_ ha2 ha8 ha14 ha19 x h kl kr83
def f_L_then (nn : Nat) (a4_ : Nat) (a5_ : Nat) (a6_ : Nat) (x0 : Int32) (x1 : Int32) (x2 : Int32) (x3 : Int32) (V : cr_Hp) : Option (Int32 × cr_Hp) :=
  cr_lt nn (fun (a2 : Nat) => cr_lt (cr_zr V a2) (fun (V2 : cr_Hp) => cr_lt (nn + 1) (fun (a8 : Nat) => cr_lt (cr_zr V2 a8) (fun (V8 : cr_Hp) => cr_lt (nn + 2) (fun (a14 : Nat) => cr_lt (cr_zr V8 a14) (fun (V14 : cr_Hp) => cr_lt (nn + 3) (fun (a19 : Nat) => cr_lt (cr_zr V14 a19) (fun (V19 : cr_Hp) => cr_bd (cr_it (fun (q : Int32 × cr_Hp) => f_L_then_l26 a4_ a5_ a6_ a2 a8 a14 a19 x0 x1 x2 x3 q.1 q.2) cr_FU ((0 : Int32), V19)) (fun (V_e26_83 : cr_Hp) => cr_gd (cr_ix (((5 : Int32) * x0) + (3 : Int32)) 60) (cr_bd (f_L_flick (nn + 4) a2 a8 a14 a19 (V_e26_83 a5_ (((5 : Int32) * x0) + (3 : Int32)).toNatClampNeg) x0 x1 x2 V_e26_83) (fun (V102 : cr_Hp) => cr_gd (cr_ix x3 5) (some ((V102 a19 x3.toNatClampNeg), V102)))))))))))))
set_option maxRecDepth 100000 in
set_option maxHeartbeats 4000000 in
theorem t_L_then {p : Program} {l : Launch} {e : Env} {s : State} {m : MethodId} {args : Array Value} {below : List Frame} {meth : Method} {c : Code} {w : cr_Wd} (X : cr_Cx w RL (Cond.code yL_then cL_then 12 (some .int)) cL_then 12 p s m args meth c) (nn : Nat) (a4_ : Nat) (a5_ : Nat) (a6_ : Nat) (x0 : Int32) (x1 : Int32) (x2 : Int32) (x3 : Int32) (V : cr_Hp) (hnn : cr_zn w = nn) (ha4_ : cr_iv w 8 a4_) (ha5_ : cr_iv w 60 a5_) (ha6_ : cr_iv w 12 a6_) (hr0 : meth.sig.returnType = (some .int)) (x : Int32 × cr_Hp) (h : f_L_then nn a4_ a5_ a6_ x0 x1 x2 x3 V = some x) : cr_J w 12 p l e rm_L_then s m args below meth c 0 0 (MQ below (cr_Qi w x.2 x.1) args s 6 109 (cr_A w)) V 0 [(0, .int x0), (1, .int x1), (2, .int x2), (3, .int x3), (4, .ref (w.1 a4_)), (5, .ref (w.1 a5_)), (6, .ref (w.1 a6_))] [] := by
  unfold f_L_then at h
  refine jr_bipush X.c (v := (8 : Int32)) dL_then_0 (by decide) ?_
  obtain ⟨a2, ea2, h⟩ := cr_lt_s h
  obtain ⟨V2, eV2, h⟩ := cr_lt_s h
  refine jr_newa X (Qf := (fun w => cr_Qi w x.2 x.1)) (fun w2 hw2 a s o t => hw2.i) (L := (fun f => [(0, .int x0), (1, .int x1), (2, .int x2), (3, .int x3), (4, .ref (f a4_)), (5, .ref (f a5_)), (6, .ref (f a6_))])) (N := 8) ac_int (by decide) (by decide) (by decide) (Nat.le_of_ble_eq_true rfl) (Nat.le_of_ble_eq_true rfl) (ea2.trans hnn.symm) eV2 (fun f g2 hfg => by simp only [hfg a4_ ha4_.2.1, hfg a5_ ha5_.2.1, hfg a6_ ha6_.2.1]) dL_then_2 (fun w X hn2 hk2 ha2 => ?_)
  replace hnn : cr_zn w = nn + 1 := by omega
  replace ha4_ := hk2 _ _ ha4_
  replace ha5_ := hk2 _ _ ha5_
  replace ha6_ := hk2 _ _ ha6_
  refine jr_astore X.c (lv2 := [(7, .ref (w.1 a2)), (0, .int x0), (1, .int x1), (2, .int x2), (3, .int x3), (4, .ref (w.1 a4_)), (5, .ref (w.1 a5_)), (6, .ref (w.1 a6_))]) dL_then_4 (by decide) rfl ?_
  refine jr_bipush X.c (v := (60 : Int32)) dL_then_6 (by decide) ?_
  obtain ⟨a8, ea8, h⟩ := cr_lt_s h
  obtain ⟨V8, eV8, h⟩ := cr_lt_s h
  refine jr_newa X (Qf := (fun w => cr_Qi w x.2 x.1)) (fun w2 hw2 a s o t => hw2.i) (L := (fun f => [(7, .ref (f a2)), (0, .int x0), (1, .int x1), (2, .int x2), (3, .int x3), (4, .ref (f a4_)), (5, .ref (f a5_)), (6, .ref (f a6_))])) (N := 60) ac_int (by decide) (by decide) (by decide) (Nat.le_of_ble_eq_true rfl) (Nat.le_of_ble_eq_true rfl) (ea8.trans hnn.symm) eV8 (fun f g2 hfg => by simp only [hfg a2 ha2.2.1, hfg a4_ ha4_.2.1, hfg a5_ ha5_.2.1, hfg a6_ ha6_.2.1]) dL_then_8 (fun w X hn2 hk2 ha8 => ?_)
  replace hnn : cr_zn w = nn + 2 := by omega
  replace ha2 := hk2 _ _ ha2
  replace ha4_ := hk2 _ _ ha4_
  replace ha5_ := hk2 _ _ ha5_
  replace ha6_ := hk2 _ _ ha6_
  refine jr_astore X.c (lv2 := [(8, .ref (w.1 a8)), (7, .ref (w.1 a2)), (0, .int x0), (1, .int x1), (2, .int x2), (3, .int x3), (4, .ref (w.1 a4_)), (5, .ref (w.1 a5_)), (6, .ref (w.1 a6_))]) dL_then_10 (by decide) rfl ?_
  refine jr_bipush X.c (v := (12 : Int32)) dL_then_12 (by decide) ?_
  obtain ⟨a14, ea14, h⟩ := cr_lt_s h
  obtain ⟨V14, eV14, h⟩ := cr_lt_s h
  refine jr_newa X (Qf := (fun w => cr_Qi w x.2 x.1)) (fun w2 hw2 a s o t => hw2.i) (L := (fun f => [(8, .ref (f a8)), (7, .ref (f a2)), (0, .int x0), (1, .int x1), (2, .int x2), (3, .int x3), (4, .ref (f a4_)), (5, .ref (f a5_)), (6, .ref (f a6_))])) (N := 12) ac_int (by decide) (by decide) (by decide) (Nat.le_of_ble_eq_true rfl) (Nat.le_of_ble_eq_true rfl) (ea14.trans hnn.symm) eV14 (fun f g2 hfg => by simp only [hfg a8 ha8.2.1, hfg a2 ha2.2.1, hfg a4_ ha4_.2.1, hfg a5_ ha5_.2.1, hfg a6_ ha6_.2.1]) dL_then_14 (fun w X hn2 hk2 ha14 => ?_)
  replace hnn : cr_zn w = nn + 3 := by omega
  replace ha8 := hk2 _ _ ha8
  replace ha2 := hk2 _ _ ha2
  replace ha4_ := hk2 _ _ ha4_
  replace ha5_ := hk2 _ _ ha5_
  replace ha6_ := hk2 _ _ ha6_
  refine jr_astore X.c (lv2 := [(9, .ref (w.1 a14)), (8, .ref (w.1 a8)), (7, .ref (w.1 a2)), (0, .int x0), (1, .int x1), (2, .int x2), (3, .int x3), (4, .ref (w.1 a4_)), (5, .ref (w.1 a5_)), (6, .ref (w.1 a6_))]) dL_then_16 (by decide) rfl ?_
  refine jr_iconst X.c (v := (5 : Int32)) dL_then_18 (by decide) ?_
  obtain ⟨a19, ea19, h⟩ := cr_lt_s h
  obtain ⟨V19, eV19, h⟩ := cr_lt_s h
  refine jr_newa X (Qf := (fun w => cr_Qi w x.2 x.1)) (fun w2 hw2 a s o t => hw2.i) (L := (fun f => [(9, .ref (f a14)), (8, .ref (f a8)), (7, .ref (f a2)), (0, .int x0), (1, .int x1), (2, .int x2), (3, .int x3), (4, .ref (f a4_)), (5, .ref (f a5_)), (6, .ref (f a6_))])) (N := 5) ac_int (by decide) (by decide) (by decide) (Nat.le_of_ble_eq_true rfl) (Nat.le_of_ble_eq_true rfl) (ea19.trans hnn.symm) eV19 (fun f g2 hfg => by simp only [hfg a14 ha14.2.1, hfg a8 ha8.2.1, hfg a2 ha2.2.1, hfg a4_ ha4_.2.1, hfg a5_ ha5_.2.1, hfg a6_ ha6_.2.1]) dL_then_19 (fun w X hn2 hk2 ha19 => ?_)
  replace hnn : cr_zn w = nn + 4 := by omega
  replace ha14 := hk2 _ _ ha14
  replace ha8 := hk2 _ _ ha8
  replace ha2 := hk2 _ _ ha2
  replace ha4_ := hk2 _ _ ha4_
  replace ha5_ := hk2 _ _ ha5_
  replace ha6_ := hk2 _ _ ha6_
  refine jr_astore X.c (lv2 := [(10, .ref (w.1 a19)), (9, .ref (w.1 a14)), (8, .ref (w.1 a8)), (7, .ref (w.1 a2)), (0, .int x0), (1, .int x1), (2, .int x2), (3, .int x3), (4, .ref (w.1 a4_)), (5, .ref (w.1 a5_)), (6, .ref (w.1 a6_))]) dL_then_21 (by decide) rfl ?_
  refine jr_iconst X.c (v := (0 : Int32)) dL_then_23 (by decide) ?_
  refine jr_istore X.c (lv2 := [(11, .int (0 : Int32)), (10, .ref (w.1 a19)), (9, .ref (w.1 a14)), (8, .ref (w.1 a8)), (7, .ref (w.1 a2)), (0, .int x0), (1, .int x1), (2, .int x2), (3, .int x3), (4, .ref (w.1 a4_)), (5, .ref (w.1 a5_)), (6, .ref (w.1 a6_))]) dL_then_24 (by decide) rfl ?_
  obtain ⟨e26, he26, h⟩ := cr_bd_s h
  have kx83 : ∀ (V_e26_83 : cr_Hp), e26 = V_e26_83 → cr_J w 12 p l e rm_L_then s m args below meth c 4 85 (MQ below (cr_Qi w x.2 x.1) args s 6 109 (cr_A w)) V_e26_83 83 [(0, .int x0), (1, .int x1), (2, .int x2), (3, .int x3), (5, .ref (w.1 a5_)), (7, .ref (w.1 a2)), (8, .ref (w.1 a8)), (9, .ref (w.1 a14)), (10, .ref (w.1 a19))] [] := by
    intro V_e26_83 qx
    rw [qx] at h
    refine jr_aload X.c dL_then_83 4 rfl ?_
    refine jr_iconst X.c (v := (5 : Int32)) dL_then_85 (by decide) ?_
    refine jr_iload_n X.c dL_then_86 rfl 0 rfl ?_
    refine jr_imul X.c dL_then_87 ?_
    refine jr_iconst X.c (v := (3 : Int32)) dL_then_88 (by decide) ?_
    refine jr_iadd X.c dL_then_89 ?_
    obtain ⟨hi90, h⟩ := cr_gd_s h
    refine jr_iald X.c (cr_l_iv ha5_) ((cr_row_iv ha5_) _) hi90 dL_then_90 ?_
    refine jr_iload_n X.c dL_then_91 rfl 0 rfl ?_
    refine jr_iload_n X.c dL_then_92 rfl 1 rfl ?_
    refine jr_iload_n X.c dL_then_93 rfl 2 rfl ?_
    refine jr_aload X.c dL_then_94 5 rfl ?_
    refine jr_aload X.c dL_then_96 6 rfl ?_
    refine jr_aload X.c dL_then_98 7 rfl ?_
    refine jr_aload X.c dL_then_100 8 rfl ?_
    obtain ⟨V102, hr102, h⟩ := cr_bd_s h
    refine jc_Av X.c (As := [.int (V_e26_83 a5_ (((5 : Int32) * x0) + (3 : Int32)).toNatClampNeg), .int x0, .int x1, .int x2, .ref (w.1 a2), .ref (w.1 a8), .ref (w.1 a14), .ref (w.1 a19)]) (V1 := V102) 8 (m_L_flick l w V_e26_83 (nn + 4) a2 a8 a14 a19 (V_e26_83 a5_ (((5 : Int32) * x0) + (3 : Int32)).toNatClampNeg) x0 x1 x2 hnn ha2 ha8 ha14 ha19 V102 hr102) ⟨rfl, rfl⟩ ml_L_27 st_L_flick in_L cd_L_flick hd_L_flick ⟨Nat.le_of_ble_eq_true rfl, Nat.le_of_ble_eq_true rfl⟩ ⟨Nat.le_of_ble_eq_true rfl, Nat.le_of_ble_eq_true rfl⟩ rfl (Nat.le_of_ble_eq_true rfl) rfl dL_then_102 ?_
    refine jr_aload X.c dL_then_105 8 rfl ?_
    refine jr_iload_n X.c dL_then_107 rfl 3 rfl ?_
    obtain ⟨hi108, h⟩ := cr_gd_s h
    refine jr_iald X.c (cr_l_iv ha19) ((cr_row_iv ha19) _) hi108 dL_then_108 ?_
    cases h
    exact jr_iret X.c hr0 dL_then_109
  refine jr_sub [5, 6, 7, 8, 9, 10, 11, 4, 3, 2, 1, 0] rfl ?_
  refine cr_it_W (f := (fun (q : Int32 × cr_Hp) => f_L_then_l26 a4_ a5_ a6_ a2 a8 a14 a19 x0 x1 x2 x3 q.1 q.2)) (P := fun (q : Int32 × cr_Hp) => cr_J w 12 p l e rm_L_then s m args below meth c 4 85 (MQ below (cr_Qi w x.2 x.1) args s 6 109 (cr_A w)) q.2 26 [(0, .int x0), (1, .int x1), (2, .int x2), (3, .int x3), (4, .ref (w.1 a4_)), (5, .ref (w.1 a5_)), (6, .ref (w.1 a6_)), (7, .ref (w.1 a2)), (8, .ref (w.1 a8)), (9, .ref (w.1 a14)), (10, .ref (w.1 a19)), (11, .int q.1)] []) (K := fun z => z = e26) (fun q x hx kl kr => ?_) cr_FU ((0 : Int32), V19) e26 he26 rfl
  obtain ⟨x11_26, V_l26⟩ := q
  exact t_L_then_l26 X a4_ a5_ a6_ a2 a8 a14 a19 x0 x1 x2 x3 x11_26 V_l26 ha4_ ha5_ ha6_ ha2 ha8 ha14 ha19 x hx (fun x11_26 V_l26 ez => kl _ ez) (fun V_e26_83 ez => kx83 V_e26_83 ((kr _ ez).symm))
set_option maxRecDepth 100000 in
set_option maxHeartbeats 4000000 in
theorem m_L_then (l : Launch) (w : cr_Wd) (V : cr_Hp) (nn : Nat) (a4_ : Nat) (a5_ : Nat) (a6_ : Nat) (x0 : Int32) (x1 : Int32) (x2 : Int32) (x3 : Int32) (hnn : cr_zn w = nn) (ha4_ : cr_iv w 8 a4_) (ha5_ : cr_iv w 60 a5_) (ha6_ : cr_iv w 12 a6_) (x : Int32 × cr_Hp) (h : f_L_then nn a4_ a5_ a6_ x0 x1 x2 x3 V = some x) : Met l yL_then (cr_wds yL_then cL_then 12 (some .int)) rm_L_then (cr_Pc w V [.int x0, .int x1, .int x2, .int x3, .ref (w.1 a4_), .ref (w.1 a5_), .ref (w.1 a6_)]) (cr_Qi w x.2 x.1) 6 109 (cr_A w) := by
  refine cr_met (own := RL) (lv := [(0, .int x0), (1, .int x1), (2, .int x2), (3, .int x3), (4, .ref (w.1 a4_)), (5, .ref (w.1 a5_)), (6, .ref (w.1 a6_))]) (by decide +kernel) rfl (Nat.le_of_ble_eq_true rfl) rfl (fun p e s m args below meth c X hr0 => ?_)
  exact t_L_then X nn a4_ a5_ a6_ x0 x1 x2 x3 V hnn ha4_ ha5_ ha6_ hr0 x h
abbrev rm_L_score : Room := { frames := 0, cells := 0, slots := 0, locals := 0 }
theorem hd_L_score : yL_score.cls ≠ "java/lang/invoke/MethodHandle" ∧ yL_score.cls ≠ "java/lang/invoke/VarHandle" ∧ (parseMethodDescriptor yL_score.desc).map (fun d => d.parameters.length) = some 3 := by decide +kernel
def f_L_score_l5 (a1_ : Nat) (a2_ : Nat) (x0 : Int32) (x3_5 : Int32) (x4_5 : Int32) (V : cr_Hp) : Option ((Int32 × Int32) ⊕ Int32) :=
  cr_gd (cr_ix (0 : Int32) 8) (if (V a1_ (0 : Int32).toNatClampNeg) ≤ x4_5 then (some (.inr x3_5)) else (cr_gd (cr_ix (((5 : Int32) * x4_5) + (4 : Int32)) 60) (if (V a2_ (((5 : Int32) * x4_5) + (4 : Int32)).toNatClampNeg) = x0 then (cr_gd (cr_ix (((5 : Int32) * x4_5) + (2 : Int32)) 60) (cr_lt ((x3_5 + (V a2_ (((5 : Int32) * x4_5) + (2 : Int32)).toNatClampNeg))) (fun (n35 : Int32) => some (.inl (n35, (x4_5 + (1 : Int32))))))) else (cr_gd (cr_ix (((5 : Int32) * x4_5) + (4 : Int32)) 60) (if (V a2_ (((5 : Int32) * x4_5) + (4 : Int32)).toNatClampNeg) < 0 then (some (.inl (x3_5, (x4_5 + (1 : Int32))))) else (cr_gd (cr_ix (((5 : Int32) * x4_5) + (3 : Int32)) 60) (if (V a2_ (((5 : Int32) * x4_5) + (3 : Int32)).toNatClampNeg) = x0 then (cr_gd (cr_ix (((5 : Int32) * x4_5) + (2 : Int32)) 60) (cr_lt ((x3_5 - (V a2_ (((5 : Int32) * x4_5) + (2 : Int32)).toNatClampNeg))) (fun (n72 : Int32) => some (.inl (n72, (x4_5 + (1 : Int32))))))) else (some (.inl (x3_5, (x4_5 + (1 : Int32))))))))))))
set_option maxRecDepth 100000 in
set_option maxHeartbeats 4000000 in
theorem t_L_score_l5 {p : Program} {l : Launch} {e : Env} {s : State} {m : MethodId} {args : Array Value} {below : List Frame} {meth : Method} {c : Code} {w : cr_Wd} {Q : State → Prop} (X : cr_Cx w RL (Cond.code yL_score cL_score 5 (some .int)) cL_score 5 p s m args meth c) (a1_ : Nat) (a2_ : Nat) (x0 : Int32) (x3_5 : Int32) (x4_5 : Int32) (V : cr_Hp) (ha1_ : cr_iv w 8 a1_) (ha2_ : cr_iv w 60 a2_) (x : (Int32 × Int32) ⊕ Int32) (h : f_L_score_l5 a1_ a2_ x0 x3_5 x4_5 V = some x) (kl : ∀ (x3_5 : Int32) (x4_5 : Int32), x = .inl (x3_5, x4_5) → cr_J w 5 p l e rm_L_score s m args below meth c 0 0 Q V 5 [(0, .int x0), (1, .ref (w.1 a1_)), (2, .ref (w.1 a2_)), (3, .int x3_5), (4, .int x4_5)] []) (kr79 : ∀ (u3_5_79 : Int32), x = .inr u3_5_79 → cr_J w 5 p l e rm_L_score s m args below meth c 0 0 Q V 79 [(3, .int u3_5_79)] []) : cr_J w 5 p l e rm_L_score s m args below meth c 0 0 Q V 5 [(0, .int x0), (1, .ref (w.1 a1_)), (2, .ref (w.1 a2_)), (3, .int x3_5), (4, .int x4_5)] [] := by
  unfold f_L_score_l5 at h
  refine jr_iload X.c dL_score_5 4 rfl ?_
  refine jr_aload_n X.c dL_score_7 rfl 1 rfl ?_
  refine jr_iconst X.c (v := (0 : Int32)) dL_score_8 (by decide) ?_
  obtain ⟨hi9, h⟩ := cr_gd_s h
  refine jr_iald X.c (cr_l_iv ha1_) ((cr_row_iv ha1_) _) hi9 dL_score_9 ?_
  refine jr_icmp_ge X.c 79 dL_score_10 (by decide) (fun q10 => ?_) (fun q10 => ?_)
  · replace h := cr_if_t q10 h
    cases h
    refine jr_sub [3] rfl ?_
    exact kr79 x3_5 rfl
  · replace h := cr_if_f q10 h
    refine jr_aload_n X.c dL_score_13 rfl 2 rfl ?_
    refine jr_iconst X.c (v := (5 : Int32)) dL_score_14 (by decide) ?_
    refine jr_iload X.c dL_score_15 4 rfl ?_
    refine jr_imul X.c dL_score_17 ?_
    refine jr_iconst X.c (v := (4 : Int32)) dL_score_18 (by decide) ?_
    refine jr_iadd X.c dL_score_19 ?_
    obtain ⟨hi20, h⟩ := cr_gd_s h
    refine jr_iald X.c (cr_l_iv ha2_) ((cr_row_iv ha2_) _) hi20 dL_score_20 ?_
    refine jr_iload_n X.c dL_score_21 rfl 0 rfl ?_
    refine jr_icmp_ne X.c 39 dL_score_22 (by decide) (fun q22 => ?_) (fun q22 => ?_)
    · replace h := cr_if_f q22 h
      refine jr_aload_n X.c dL_score_39 rfl 2 rfl ?_
      refine jr_iconst X.c (v := (5 : Int32)) dL_score_40 (by decide) ?_
      refine jr_iload X.c dL_score_41 4 rfl ?_
      refine jr_imul X.c dL_score_43 ?_
      refine jr_iconst X.c (v := (4 : Int32)) dL_score_44 (by decide) ?_
      refine jr_iadd X.c dL_score_45 ?_
      obtain ⟨hi46, h⟩ := cr_gd_s h
      refine jr_iald X.c (cr_l_iv ha2_) ((cr_row_iv ha2_) _) hi46 dL_score_46 ?_
      refine jr_if_lt X.c 73 dL_score_47 (by decide) (fun q47 => ?_) (fun q47 => ?_)
      · replace h := cr_if_t q47 h
        refine jr_iinc X.c (v := (x4_5 + (1 : Int32))) (lv2 := [(4, .int (x4_5 + (1 : Int32))), (0, .int x0), (1, .ref (w.1 a1_)), (2, .ref (w.1 a2_)), (3, .int x3_5)]) dL_score_73 4 rfl (by rfl) (by decide) rfl ?_
        refine jr_goto X.c 5 dL_score_76 (by decide) ?_
        cases h
        refine jr_sub [1, 2, 3, 4, 0] rfl ?_
        exact kl x3_5 (x4_5 + (1 : Int32)) rfl
      · replace h := cr_if_f q47 h
        refine jr_aload_n X.c dL_score_50 rfl 2 rfl ?_
        refine jr_iconst X.c (v := (5 : Int32)) dL_score_51 (by decide) ?_
        refine jr_iload X.c dL_score_52 4 rfl ?_
        refine jr_imul X.c dL_score_54 ?_
        refine jr_iconst X.c (v := (3 : Int32)) dL_score_55 (by decide) ?_
        refine jr_iadd X.c dL_score_56 ?_
        obtain ⟨hi57, h⟩ := cr_gd_s h
        refine jr_iald X.c (cr_l_iv ha2_) ((cr_row_iv ha2_) _) hi57 dL_score_57 ?_
        refine jr_iload_n X.c dL_score_58 rfl 0 rfl ?_
        refine jr_icmp_ne X.c 73 dL_score_59 (by decide) (fun q59 => ?_) (fun q59 => ?_)
        · replace h := cr_if_f q59 h
          refine jr_iinc X.c (v := (x4_5 + (1 : Int32))) (lv2 := [(4, .int (x4_5 + (1 : Int32))), (0, .int x0), (1, .ref (w.1 a1_)), (2, .ref (w.1 a2_)), (3, .int x3_5)]) dL_score_73 4 rfl (by rfl) (by decide) rfl ?_
          refine jr_goto X.c 5 dL_score_76 (by decide) ?_
          cases h
          refine jr_sub [1, 2, 3, 4, 0] rfl ?_
          exact kl x3_5 (x4_5 + (1 : Int32)) rfl
        · replace h := cr_if_t q59 h
          refine jr_iload_n X.c dL_score_62 rfl 3 rfl ?_
          refine jr_aload_n X.c dL_score_63 rfl 2 rfl ?_
          refine jr_iconst X.c (v := (5 : Int32)) dL_score_64 (by decide) ?_
          refine jr_iload X.c dL_score_65 4 rfl ?_
          refine jr_imul X.c dL_score_67 ?_
          refine jr_iconst X.c (v := (2 : Int32)) dL_score_68 (by decide) ?_
          refine jr_iadd X.c dL_score_69 ?_
          obtain ⟨hi70, h⟩ := cr_gd_s h
          refine jr_iald X.c (cr_l_iv ha2_) ((cr_row_iv ha2_) _) hi70 dL_score_70 ?_
          refine jr_isub X.c dL_score_71 ?_
          obtain ⟨n72, en72, h⟩ := cr_lt_s h
          refine jr_top en72 ?_
          refine jr_istore_n X.c (lv2 := [(3, .int n72), (0, .int x0), (1, .ref (w.1 a1_)), (2, .ref (w.1 a2_)), (4, .int x4_5)]) dL_score_72 rfl (by decide) rfl ?_
          refine jr_iinc X.c (v := (x4_5 + (1 : Int32))) (lv2 := [(4, .int (x4_5 + (1 : Int32))), (3, .int n72), (0, .int x0), (1, .ref (w.1 a1_)), (2, .ref (w.1 a2_))]) dL_score_73 4 rfl (by rfl) (by decide) rfl ?_
          refine jr_goto X.c 5 dL_score_76 (by decide) ?_
          cases h
          refine jr_sub [2, 3, 4, 1, 0] rfl ?_
          exact kl n72 (x4_5 + (1 : Int32)) rfl
    · replace h := cr_if_t q22 h
      refine jr_iload_n X.c dL_score_25 rfl 3 rfl ?_
      refine jr_aload_n X.c dL_score_26 rfl 2 rfl ?_
      refine jr_iconst X.c (v := (5 : Int32)) dL_score_27 (by decide) ?_
      refine jr_iload X.c dL_score_28 4 rfl ?_
      refine jr_imul X.c dL_score_30 ?_
      refine jr_iconst X.c (v := (2 : Int32)) dL_score_31 (by decide) ?_
      refine jr_iadd X.c dL_score_32 ?_
      obtain ⟨hi33, h⟩ := cr_gd_s h
      refine jr_iald X.c (cr_l_iv ha2_) ((cr_row_iv ha2_) _) hi33 dL_score_33 ?_
      refine jr_iadd X.c dL_score_34 ?_
      obtain ⟨n35, en35, h⟩ := cr_lt_s h
      refine jr_top en35 ?_
      refine jr_istore_n X.c (lv2 := [(3, .int n35), (0, .int x0), (1, .ref (w.1 a1_)), (2, .ref (w.1 a2_)), (4, .int x4_5)]) dL_score_35 rfl (by decide) rfl ?_
      refine jr_goto X.c 73 dL_score_36 (by decide) ?_
      refine jr_iinc X.c (v := (x4_5 + (1 : Int32))) (lv2 := [(4, .int (x4_5 + (1 : Int32))), (3, .int n35), (0, .int x0), (1, .ref (w.1 a1_)), (2, .ref (w.1 a2_))]) dL_score_73 4 rfl (by rfl) (by decide) rfl ?_
      refine jr_goto X.c 5 dL_score_76 (by decide) ?_
      cases h
      refine jr_sub [2, 3, 4, 1, 0] rfl ?_
      exact kl n35 (x4_5 + (1 : Int32)) rfl
def f_L_score (a1_ : Nat) (a2_ : Nat) (x0 : Int32) (V : cr_Hp) : Option (Int32) :=
  cr_bd (cr_it (fun (q : Int32 × Int32) => f_L_score_l5 a1_ a2_ x0 q.1 q.2 V) cr_FU ((0 : Int32), (0 : Int32))) (fun (u3_5_79 : Int32) => some u3_5_79)
set_option maxRecDepth 100000 in
set_option maxHeartbeats 4000000 in
theorem t_L_score {p : Program} {l : Launch} {e : Env} {s : State} {m : MethodId} {args : Array Value} {below : List Frame} {meth : Method} {c : Code} {w : cr_Wd} (X : cr_Cx w RL (Cond.code yL_score cL_score 5 (some .int)) cL_score 5 p s m args meth c) (a1_ : Nat) (a2_ : Nat) (x0 : Int32) (V : cr_Hp) (ha1_ : cr_iv w 8 a1_) (ha2_ : cr_iv w 60 a2_) (hr0 : meth.sig.returnType = (some .int)) (x : Int32) (h : f_L_score a1_ a2_ x0 V = some x) : cr_J w 5 p l e rm_L_score s m args below meth c 0 0 (MQ below (cr_Qi w V x) args s 0 0 (cr_A w)) V 0 [(0, .int x0), (1, .ref (w.1 a1_)), (2, .ref (w.1 a2_))] [] := by
  unfold f_L_score at h
  refine jr_iconst X.c (v := (0 : Int32)) dL_score_0 (by decide) ?_
  refine jr_istore_n X.c (lv2 := [(3, .int (0 : Int32)), (0, .int x0), (1, .ref (w.1 a1_)), (2, .ref (w.1 a2_))]) dL_score_1 rfl (by decide) rfl ?_
  refine jr_iconst X.c (v := (0 : Int32)) dL_score_2 (by decide) ?_
  refine jr_istore X.c (lv2 := [(4, .int (0 : Int32)), (3, .int (0 : Int32)), (0, .int x0), (1, .ref (w.1 a1_)), (2, .ref (w.1 a2_))]) dL_score_3 (by decide) rfl ?_
  obtain ⟨e5, he5, h⟩ := cr_bd_s h
  have kx79 : ∀ (u3_5_79 : Int32), e5 = u3_5_79 → cr_J w 5 p l e rm_L_score s m args below meth c 0 0 (MQ below (cr_Qi w V x) args s 0 0 (cr_A w)) V 79 [(3, .int u3_5_79)] [] := by
    intro u3_5_79 qx
    rw [qx] at h
    refine jr_iload_n X.c dL_score_79 rfl 0 rfl ?_
    cases h
    exact jr_iret X.c hr0 dL_score_80
  refine jr_sub [2, 3, 4, 1, 0] rfl ?_
  refine cr_it_W (f := (fun (q : Int32 × Int32) => f_L_score_l5 a1_ a2_ x0 q.1 q.2 V)) (P := fun (q : Int32 × Int32) => cr_J w 5 p l e rm_L_score s m args below meth c 0 0 (MQ below (cr_Qi w V x) args s 0 0 (cr_A w)) V 5 [(0, .int x0), (1, .ref (w.1 a1_)), (2, .ref (w.1 a2_)), (3, .int q.1), (4, .int q.2)] []) (K := fun z => z = e5) (fun q x hx kl kr => ?_) cr_FU ((0 : Int32), (0 : Int32)) e5 he5 rfl
  obtain ⟨x3_5, x4_5⟩ := q
  exact t_L_score_l5 X a1_ a2_ x0 x3_5 x4_5 V ha1_ ha2_ x hx (fun x3_5 x4_5 ez => kl _ ez) (fun u3_5_79 ez => kx79 u3_5_79 ((kr _ ez).symm))
set_option maxRecDepth 100000 in
set_option maxHeartbeats 4000000 in
theorem m_L_score (l : Launch) (w : cr_Wd) (V : cr_Hp) (a1_ : Nat) (a2_ : Nat) (x0 : Int32) (ha1_ : cr_iv w 8 a1_) (ha2_ : cr_iv w 60 a2_) (x : Int32) (h : f_L_score a1_ a2_ x0 V = some x) : Met l yL_score (cr_wds yL_score cL_score 5 (some .int)) rm_L_score (cr_Pc w V [.int x0, .ref (w.1 a1_), .ref (w.1 a2_)]) (cr_Qi w V x) 0 0 (cr_A w) := by
  refine cr_met (own := RL) (lv := [(0, .int x0), (1, .ref (w.1 a1_)), (2, .ref (w.1 a2_))]) (by decide +kernel) rfl (Nat.le_of_ble_eq_true rfl) rfl (fun p e s m args below meth c X hr0 => ?_)
  exact t_L_score X a1_ a2_ x0 V ha1_ ha2_ hr0 x h
