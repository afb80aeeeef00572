abbrev rm_L_flick : Room := { frames := 2, cells := 2, slots := 24, locals := 50 }
theorem hd_L_flick : yL_flick.cls ≠ "java/lang/invoke/MethodHandle" ∧ yL_flick.cls ≠ "java/lang/invoke/VarHandle" ∧ (parseMethodDescriptor yL_flick.desc).map (fun d => d.parameters.length) = some 8 := by decide +kernel
def f_L_flick_l15 (a4_ : Nat) (a5_ : Nat) (a6_ : Nat) (a7_ : Nat) (a2 : Nat) (a8 : Nat) (x0 : Int32) (x1 : Int32) (x2 : Int32) (x3 : Int32) (x10_15 : Int32) (V_l15 : cr_Hp) : Option ((Int32 × cr_Hp) ⊕ cr_Hp) :=
  cr_gd (cr_ix (0 : Int32) 8) (if (V_l15 a4_ (0 : Int32).toNatClampNeg) ≤ x10_15 then (some (.inr V_l15)) else (cr_gd (cr_ix (((5 : Int32) * x10_15) + (4 : Int32)) 60) (if 0 ≤ (V_l15 a5_ (((5 : Int32) * x10_15) + (4 : Int32)).toNatClampNeg) then (cr_gd (cr_ix x10_15 12) (cr_lt (cr_pt V_l15 a2 x10_15.toNatClampNeg (0 : Int32)) (fun (V67 : cr_Hp) => some (.inl ((x10_15 + (1 : Int32)), V67))))) else (cr_gd (cr_ix ((5 : Int32) * x10_15) 60) (cr_gd (cr_ix (((5 : Int32) * x10_15) + (1 : Int32)) 60) (cr_bd (f_L_rings a4_ a6_ (V_l15 a5_ ((5 : Int32) * x10_15).toNatClampNeg) (V_l15 a5_ (((5 : Int32) * x10_15) + (1 : Int32)).toNatClampNeg) V_l15) (fun (r60 : Int32) => cr_gd (cr_ix x10_15 12) (cr_lt (cr_pt V_l15 a2 x10_15.toNatClampNeg r60) (fun (V67 : cr_Hp) => some (.inl ((x10_15 + (1 : Int32)), V67)))))))))))
set_option maxRecDepth 100000 in
set_option maxHeartbeats 4000000 in
theorem t_L_flick_l15 {p : Program} {l : Launch} {e : Env} {s : State} {m : MethodId} {args : Array Value} {below : List Frame} {meth : Method} {c : Code} {w : cr_Wd} {Q : State → Prop} (X : cr_Cx w RL (Cond.code yL_flick cL_flick 21 none) cL_flick 21 p s m args meth c) (a4_ : Nat) (a5_ : Nat) (a6_ : Nat) (a7_ : Nat) (a2 : Nat) (a8 : Nat) (x0 : Int32) (x1 : Int32) (x2 : Int32) (x3 : Int32) (x10_15 : Int32) (V_l15 : cr_Hp) (ha4_ : cr_iv w 8 a4_) (ha5_ : cr_iv w 60 a5_) (ha6_ : cr_iv w 12 a6_) (ha7_ : cr_iv w 5 a7_) (ha2 : cr_iv w 12 a2) (ha8 : cr_iv w 12 a8) (x : (Int32 × cr_Hp) ⊕ cr_Hp) (h : f_L_flick_l15 a4_ a5_ a6_ a7_ a2 a8 x0 x1 x2 x3 x10_15 V_l15 = some x) (kl : ∀ (x10_15 : Int32) (V_l15 : cr_Hp), x = .inl (x10_15, V_l15) → cr_J w 21 p l e rm_L_flick s m args below meth c 2 24 Q V_l15 15 [(0, .int x0), (1, .int x1), (2, .int x2), (3, .int x3), (4, .ref (w.1 a4_)), (5, .ref (w.1 a5_)), (6, .ref (w.1 a6_)), (7, .ref (w.1 a7_)), (8, .ref (w.1 a2)), (9, .ref (w.1 a8)), (10, .int x10_15)] []) (kr74 : ∀ (V_e15_74 : cr_Hp), x = .inr V_e15_74 → cr_J w 21 p l e rm_L_flick s m args below meth c 2 24 Q V_e15_74 74 [(0, .int x0), (1, .int x1), (2, .int x2), (3, .int x3), (4, .ref (w.1 a4_)), (5, .ref (w.1 a5_)), (6, .ref (w.1 a6_)), (7, .ref (w.1 a7_)), (8, .ref (w.1 a2)), (9, .ref (w.1 a8))] []) : cr_J w 21 p l e rm_L_flick s m args below meth c 2 24 Q V_l15 15 [(0, .int x0), (1, .int x1), (2, .int x2), (3, .int x3), (4, .ref (w.1 a4_)), (5, .ref (w.1 a5_)), (6, .ref (w.1 a6_)), (7, .ref (w.1 a7_)), (8, .ref (w.1 a2)), (9, .ref (w.1 a8)), (10, .int x10_15)] [] := by
  unfold f_L_flick_l15 at h
  refine jr_iload X.c dL_flick_15 10 rfl ?_
  refine jr_aload X.c dL_flick_17 4 rfl ?_
  refine jr_iconst X.c (v := (0 : Int32)) dL_flick_19 (by decide) ?_
  obtain ⟨hi20, h⟩ := cr_gd_s h
  refine jr_iald X.c (cr_l_iv ha4_) ((cr_row_iv ha4_) _) hi20 dL_flick_20 ?_
  refine jr_icmp_ge X.c 74 dL_flick_21 (by decide) (fun q21 => ?_) (fun q21 => ?_)
  · replace h := cr_if_t q21 h
    cases h
    refine jr_sub [0, 1, 2, 3, 4, 5, 6, 7, 8, 9] rfl ?_
    exact kr74 V_l15 rfl
  · replace h := cr_if_f q21 h
    refine jr_aload X.c dL_flick_24 8 rfl ?_
    refine jr_iload X.c dL_flick_26 10 rfl ?_
    refine jr_aload X.c dL_flick_28 5 rfl ?_
    refine jr_iconst X.c (v := (5 : Int32)) dL_flick_30 (by decide) ?_
    refine jr_iload X.c dL_flick_31 10 rfl ?_
    refine jr_imul X.c dL_flick_33 ?_
    refine jr_iconst X.c (v := (4 : Int32)) dL_flick_34 (by decide) ?_
    refine jr_iadd X.c dL_flick_35 ?_
    obtain ⟨hi36, h⟩ := cr_gd_s h
    refine jr_iald X.c (cr_l_iv ha5_) ((cr_row_iv ha5_) _) hi36 dL_flick_36 ?_
    refine jr_if_ge X.c 66 dL_flick_37 (by decide) (fun q37 => ?_) (fun q37 => ?_)
    · replace h := cr_if_t q37 h
      refine jr_iconst X.c (v := (0 : Int32)) dL_flick_66 (by decide) ?_
      obtain ⟨hi67, h⟩ := cr_gd_s h
      obtain ⟨V67, eV67, h⟩ := cr_lt_s h
      refine jr_iast X.c (cr_l_iv ha2) (cr_row_iv ha2) hi67 dL_flick_67 eV67 ?_
      refine jr_iinc X.c (v := (x10_15 + (1 : Int32))) (lv2 := [(10, .int (x10_15 + (1 : Int32))), (0, .int x0), (1, .int x1), (2, .int x2), (3, .int x3), (4, .ref (w.1 a4_)), (5, .ref (w.1 a5_)), (6, .ref (w.1 a6_)), (7, .ref (w.1 a7_)), (8, .ref (w.1 a2)), (9, .ref (w.1 a8))]) dL_flick_68 10 rfl (by rfl) (by decide) rfl ?_
      refine jr_goto X.c 15 dL_flick_71 (by decide) ?_
      cases h
      refine jr_sub [1, 2, 3, 4, 5, 6, 7, 8, 9, 10, 0] rfl ?_
      exact kl (x10_15 + (1 : Int32)) V67 rfl
    · replace h := cr_if_f q37 h
      refine jr_aload X.c dL_flick_40 5 rfl ?_
      refine jr_iconst X.c (v := (5 : Int32)) dL_flick_42 (by decide) ?_
      refine jr_iload X.c dL_flick_43 10 rfl ?_
      refine jr_imul X.c dL_flick_45 ?_
      obtain ⟨hi46, h⟩ := cr_gd_s h
      refine jr_iald X.c (cr_l_iv ha5_) ((cr_row_iv ha5_) _) hi46 dL_flick_46 ?_
      refine jr_aload X.c dL_flick_47 5 rfl ?_
      refine jr_iconst X.c (v := (5 : Int32)) dL_flick_49 (by decide) ?_
      refine jr_iload X.c dL_flick_50 10 rfl ?_
      refine jr_imul X.c dL_flick_52 ?_
      refine jr_iconst X.c (v := (1 : Int32)) dL_flick_53 (by decide) ?_
      refine jr_iadd X.c dL_flick_54 ?_
      obtain ⟨hi55, h⟩ := cr_gd_s h
      refine jr_iald X.c (cr_l_iv ha5_) ((cr_row_iv ha5_) _) hi55 dL_flick_55 ?_
      refine jr_aload X.c dL_flick_56 4 rfl ?_
      refine jr_aload X.c dL_flick_58 6 rfl ?_
      obtain ⟨r60, hr60, h⟩ := cr_bd_s h
      refine jc_Si X.c (As := [.int (V_l15 a5_ ((5 : Int32) * x10_15).toNatClampNeg), .int (V_l15 a5_ (((5 : Int32) * x10_15) + (1 : Int32)).toNatClampNeg), .ref (w.1 a4_), .ref (w.1 a6_)]) (V1 := V_l15) 4 (m_L_rings l w V_l15 a4_ a6_ (V_l15 a5_ ((5 : Int32) * x10_15).toNatClampNeg) (V_l15 a5_ (((5 : Int32) * x10_15) + (1 : Int32)).toNatClampNeg) ha4_ ha6_ r60 hr60) ⟨rfl, rfl⟩ ml_L_16 st_L_rings in_L cd_L_rings hd_L_rings ⟨Nat.le_of_ble_eq_true rfl, Nat.le_of_ble_eq_true rfl⟩ ⟨Nat.le_of_ble_eq_true rfl, Nat.le_of_ble_eq_true rfl⟩ rfl (Nat.le_of_ble_eq_true rfl) rfl dL_flick_60 ?_
      refine jr_goto X.c 67 dL_flick_63 (by decide) ?_
      obtain ⟨hi67, h⟩ := cr_gd_s h
      obtain ⟨V67, eV67, h⟩ := cr_lt_s h
      refine jr_iast X.c (cr_l_iv ha2) (cr_row_iv ha2) hi67 dL_flick_67 eV67 ?_
      refine jr_iinc X.c (v := (x10_15 + (1 : Int32))) (lv2 := [(10, .int (x10_15 + (1 : Int32))), (0, .int x0), (1, .int x1), (2, .int x2), (3, .int x3), (4, .ref (w.1 a4_)), (5, .ref (w.1 a5_)), (6, .ref (w.1 a6_)), (7, .ref (w.1 a7_)), (8, .ref (w.1 a2)), (9, .ref (w.1 a8))]) dL_flick_68 10 rfl (by rfl) (by decide) rfl ?_
      refine jr_goto X.c 15 dL_flick_71 (by decide) ?_
      cases h
      refine jr_sub [1, 2, 3, 4, 5, 6, 7, 8, 9, 10, 0] rfl ?_
      exact kl (x10_15 + (1 : Int32)) V67 rfl
def f_L_flick_l326 (a4_ : Nat) (a5_ : Nat) (a6_ : Nat) (a7_ : Nat) (a2 : Nat) (a8 : Nat) (x0 : Int32) (x12_134 : Int32) (x14_134 : Int32) (r155 : Int32) (r171 : Int32) (n227 : Int32) (n241 : Int32) (x13_326 : Int32) (x20_326 : Int32) (V208 : cr_Hp) : Option ((Int32 × Int32) ⊕ Int32) :=
  cr_gd (cr_ix (1 : Int32) 8) (if (V208 a4_ (1 : Int32).toNatClampNeg) ≤ x20_326 then (some (.inr x13_326)) else (cr_bd (f_L_in a6_ x20_326 n227 n241 V208) (fun (r345 : Int32) => cr_gd (cr_ix ((5 : Int32) * x12_134) 60) (cr_gd (cr_ix (((5 : Int32) * x12_134) + (1 : Int32)) 60) (cr_bd (f_L_in a6_ x20_326 (V208 a5_ ((5 : Int32) * x12_134).toNatClampNeg) (V208 a5_ (((5 : Int32) * x12_134) + (1 : Int32)).toNatClampNeg) V208) (fun (r368 : Int32) => if r345 = r368 then (some (.inl ((x13_326 - (0 : Int32)), (x20_326 + (1 : Int32))))) else (some (.inl ((x13_326 - (1 : Int32)), (x20_326 + (1 : Int32)))))))))))
set_option maxRecDepth 100000 in
set_option maxHeartbeats 4000000 in
theorem t_L_flick_l326 {p : Program} {l : Launch} {e : Env} {s : State} {m : MethodId} {args : Array Value} {below : List Frame} {meth : Method} {c : Code} {w : cr_Wd} {Q : State → Prop} (X : cr_Cx w RL (Cond.code yL_flick cL_flick 21 none) cL_flick 21 p s m args meth c) (a4_ : Nat) (a5_ : Nat) (a6_ : Nat) (a7_ : Nat) (a2 : Nat) (a8 : Nat) (x0 : Int32) (x12_134 : Int32) (x14_134 : Int32) (r155 : Int32) (r171 : Int32) (n227 : Int32) (n241 : Int32) (x13_326 : Int32) (x20_326 : Int32) (V208 : cr_Hp) (ha4_ : cr_iv w 8 a4_) (ha5_ : cr_iv w 60 a5_) (ha6_ : cr_iv w 12 a6_) (ha7_ : cr_iv w 5 a7_) (ha2 : cr_iv w 12 a2) (ha8 : cr_iv w 12 a8) (x : (Int32 × Int32) ⊕ Int32) (h : f_L_flick_l326 a4_ a5_ a6_ a7_ a2 a8 x0 x12_134 x14_134 r155 r171 n227 n241 x13_326 x20_326 V208 = some x) (kl : ∀ (x13_326 : Int32) (x20_326 : Int32), x = .inl (x13_326, x20_326) → cr_J w 21 p l e rm_L_flick s m args below meth c 2 24 Q V208 326 [(0, .int x0), (4, .ref (w.1 a4_)), (5, .ref (w.1 a5_)), (6, .ref (w.1 a6_)), (7, .ref (w.1 a7_)), (8, .ref (w.1 a2)), (9, .ref (w.1 a8)), (10, .int r155), (11, .int r171), (12, .int x12_134), (13, .int x13_326), (14, .int x14_134), (17, .int n227), (18, .int n241), (20, .int x20_326)] []) (kr388 : ∀ (u13_326_388 : Int32), x = .inr u13_326_388 → cr_J w 21 p l e rm_L_flick s m args below meth c 2 24 Q V208 388 [(0, .int x0), (4, .ref (w.1 a4_)), (5, .ref (w.1 a5_)), (6, .ref (w.1 a6_)), (7, .ref (w.1 a7_)), (8, .ref (w.1 a2)), (9, .ref (w.1 a8)), (10, .int r155), (11, .int r171), (12, .int x12_134), (13, .int u13_326_388), (14, .int x14_134), (17, .int n227), (18, .int n241)] []) : cr_J w 21 p l e rm_L_flick s m args below meth c 2 24 Q V208 326 [(0, .int x0), (4, .ref (w.1 a4_)), (5, .ref (w.1 a5_)), (6, .ref (w.1 a6_)), (7, .ref (w.1 a7_)), (8, .ref (w.1 a2)), (9, .ref (w.1 a8)), (10, .int r155), (11, .int r171), (12, .int x12_134), (13, .int x13_326), (14, .int x14_134), (17, .int n227), (18, .int n241), (20, .int x20_326)] [] := by
  unfold f_L_flick_l326 at h
  refine jr_iload X.c dL_flick_326 14 rfl ?_
  refine jr_aload X.c dL_flick_328 1 rfl ?_
  refine jr_iconst X.c (v := (1 : Int32)) dL_flick_330 (by decide) ?_
  obtain ⟨hi331, h⟩ := cr_gd_s h
  refine jr_iald X.c (cr_l_iv ha4_) ((cr_row_iv ha4_) _) hi331 dL_flick_331 ?_
  refine jr_icmp_ge X.c 388 dL_flick_332 (by decide) (fun q332 => ?_) (fun q332 => ?_)
  · replace h := cr_if_t q332 h
    cases h
    refine jr_sub [0, 1, 2, 3, 4, 5, 6, 7, 8, 9, 10, 11, 12, 13] rfl ?_
    exact kr388 x13_326 rfl
  · replace h := cr_if_f q332 h
    refine jr_iload X.c dL_flick_335 10 rfl ?_
    refine jr_iload X.c dL_flick_337 14 rfl ?_
    refine jr_iload X.c dL_flick_339 12 rfl ?_
    refine jr_iload X.c dL_flick_341 13 rfl ?_
    refine jr_aload X.c dL_flick_343 3 rfl ?_
    obtain ⟨r345, hr345, h⟩ := cr_bd_s h
    refine jc_Si X.c (As := [.int x20_326, .int n227, .int n241, .ref (w.1 a6_)]) (V1 := V208) 4 (m_L_in l w V208 a6_ x20_326 n227 n241 ha6_ r345 hr345) ⟨rfl, rfl⟩ ml_L_10 st_L_in in_L cd_L_in hd_L_in ⟨Nat.le_of_ble_eq_true rfl, Nat.le_of_ble_eq_true rfl⟩ ⟨Nat.le_of_ble_eq_true rfl, Nat.le_of_ble_eq_true rfl⟩ rfl (Nat.le_of_ble_eq_true rfl) rfl dL_flick_345 ?_
    refine jr_iload X.c dL_flick_348 14 rfl ?_
    refine jr_aload X.c dL_flick_350 2 rfl ?_
    refine jr_iconst X.c (v := (5 : Int32)) dL_flick_352 (by decide) ?_
    refine jr_iload X.c dL_flick_353 9 rfl ?_
    refine jr_imul X.c dL_flick_355 ?_
    obtain ⟨hi356, h⟩ := cr_gd_s h
    refine jr_iald X.c (cr_l_iv ha5_) ((cr_row_iv ha5_) _) hi356 dL_flick_356 ?_
    refine jr_aload X.c dL_flick_357 2 rfl ?_
    refine jr_iconst X.c (v := (5 : Int32)) dL_flick_359 (by decide) ?_
    refine jr_iload X.c dL_flick_360 9 rfl ?_
    refine jr_imul X.c dL_flick_362 ?_
    refine jr_iconst X.c (v := (1 : Int32)) dL_flick_363 (by decide) ?_
    refine jr_iadd X.c dL_flick_364 ?_
    obtain ⟨hi365, h⟩ := cr_gd_s h
    refine jr_iald X.c (cr_l_iv ha5_) ((cr_row_iv ha5_) _) hi365 dL_flick_365 ?_
    refine jr_aload X.c dL_flick_366 3 rfl ?_
    obtain ⟨r368, hr368, h⟩ := cr_bd_s h
    refine jc_Si X.c (As := [.int x20_326, .int (V208 a5_ ((5 : Int32) * x12_134).toNatClampNeg), .int (V208 a5_ (((5 : Int32) * x12_134) + (1 : Int32)).toNatClampNeg), .ref (w.1 a6_)]) (V1 := V208) 4 (m_L_in l w V208 a6_ x20_326 (V208 a5_ ((5 : Int32) * x12_134).toNatClampNeg) (V208 a5_ (((5 : Int32) * x12_134) + (1 : Int32)).toNatClampNeg) ha6_ r368 hr368) ⟨rfl, rfl⟩ ml_L_10 st_L_in in_L cd_L_in hd_L_in ⟨Nat.le_of_ble_eq_true rfl, Nat.le_of_ble_eq_true rfl⟩ ⟨Nat.le_of_ble_eq_true rfl, Nat.le_of_ble_eq_true rfl⟩ rfl (Nat.le_of_ble_eq_true rfl) rfl dL_flick_368 ?_
    refine jr_icmp_ne X.c 378 dL_flick_371 (by decide) (fun q371 => ?_) (fun q371 => ?_)
    · replace h := cr_if_f q371 h
      refine jr_iconst X.c (v := (1 : Int32)) dL_flick_378 (by decide) ?_
      refine jr_isub X.c dL_flick_379 ?_
      refine jr_istore X.c (lv2 := [(13, .int (x13_326 - (1 : Int32))), (0, .int x0), (4, .ref (w.1 a4_)), (5, .ref (w.1 a5_)), (6, .ref (w.1 a6_)), (7, .ref (w.1 a7_)), (8, .ref (w.1 a2)), (9, .ref (w.1 a8)), (10, .int r155), (11, .int r171), (12, .int x12_134), (14, .int x14_134), (17, .int n227), (18, .int n241), (20, .int x20_326)]) dL_flick_380 (by decide) rfl ?_
      refine jr_iinc X.c (v := (x20_326 + (1 : Int32))) (lv2 := [(20, .int (x20_326 + (1 : Int32))), (13, .int (x13_326 - (1 : Int32))), (0, .int x0), (4, .ref (w.1 a4_)), (5, .ref (w.1 a5_)), (6, .ref (w.1 a6_)), (7, .ref (w.1 a7_)), (8, .ref (w.1 a2)), (9, .ref (w.1 a8)), (10, .int r155), (11, .int r171), (12, .int x12_134), (14, .int x14_134), (17, .int n227), (18, .int n241)]) dL_flick_382 14 rfl (by rfl) (by decide) rfl ?_
      refine jr_goto X.c 326 dL_flick_385 (by decide) ?_
      cases h
      refine jr_sub [2, 3, 4, 5, 6, 7, 8, 9, 10, 11, 1, 12, 13, 14, 0] rfl ?_
      exact kl (x13_326 - (1 : Int32)) (x20_326 + (1 : Int32)) rfl
    · replace h := cr_if_t q371 h
      refine jr_iconst X.c (v := (0 : Int32)) dL_flick_374 (by decide) ?_
      refine jr_goto X.c 379 dL_flick_375 (by decide) ?_
      refine jr_isub X.c dL_flick_379 ?_
      refine jr_istore X.c (lv2 := [(13, .int (x13_326 - (0 : Int32))), (0, .int x0), (4, .ref (w.1 a4_)), (5, .ref (w.1 a5_)), (6, .ref (w.1 a6_)), (7, .ref (w.1 a7_)), (8, .ref (w.1 a2)), (9, .ref (w.1 a8)), (10, .int r155), (11, .int r171), (12, .int x12_134), (14, .int x14_134), (17, .int n227), (18, .int n241), (20, .int x20_326)]) dL_flick_380 (by decide) rfl ?_
      refine jr_iinc X.c (v := (x20_326 + (1 : Int32))) (lv2 := [(20, .int (x20_326 + (1 : Int32))), (13, .int (x13_326 - (0 : Int32))), (0, .int x0), (4, .ref (w.1 a4_)), (5, .ref (w.1 a5_)), (6, .ref (w.1 a6_)), (7, .ref (w.1 a7_)), (8, .ref (w.1 a2)), (9, .ref (w.1 a8)), (10, .int r155), (11, .int r171), (12, .int x12_134), (14, .int x14_134), (17, .int n227), (18, .int n241)]) dL_flick_382 14 rfl (by rfl) (by decide) rfl ?_
      refine jr_goto X.c 326 dL_flick_385 (by decide) ?_
      cases h
      refine jr_sub [2, 3, 4, 5, 6, 7, 8, 9, 10, 11, 1, 12, 13, 14, 0] rfl ?_
      exact kl (x13_326 - (0 : Int32)) (x20_326 + (1 : Int32)) rfl
def f_L_flick_b299 (a4_ : Nat) (a5_ : Nat) (a6_ : Nat) (a7_ : Nat) (a2 : Nat) (a8 : Nat) (x0 : Int32) (x14_134 : Int32) (r155 : Int32) (r171 : Int32) (r251 : Int32) (z0_299 : Int32) (V208 : cr_Hp) : Option ((Int32 × Int32 × Int32 × Int32 × Int32 × cr_Hp) ⊕ (Int32 × Int32 × cr_Hp)) :=
  cr_gd (cr_ix r251 12) (cr_gd (cr_ix r251 12) (cr_lt (cr_pt V208 a8 r251.toNatClampNeg ((V208 a8 r251.toNatClampNeg) + (1 : Int32))) (fun (V309 : cr_Hp) => some (.inl (r155, r171, r251, z0_299, (x14_134 + (1 : Int32)), V309)))))
set_option maxRecDepth 100000 in
set_option maxHeartbeats 4000000 in
theorem t_L_flick_b299 {p : Program} {l : Launch} {e : Env} {s : State} {m : MethodId} {args : Array Value} {below : List Frame} {meth : Method} {c : Code} {w : cr_Wd} {Q : State → Prop} (X : cr_Cx w RL (Cond.code yL_flick cL_flick 21 none) cL_flick 21 p s m args meth c) (a4_ : Nat) (a5_ : Nat) (a6_ : Nat) (a7_ : Nat) (a2 : Nat) (a8 : Nat) (x0 : Int32) (x14_134 : Int32) (r155 : Int32) (r171 : Int32) (r251 : Int32) (z0_299 : Int32) (V208 : cr_Hp) (ha4_ : cr_iv w 8 a4_) (ha5_ : cr_iv w 60 a5_) (ha6_ : cr_iv w 12 a6_) (ha7_ : cr_iv w 5 a7_) (ha2 : cr_iv w 12 a2) (ha8 : cr_iv w 12 a8) (x : (Int32 × Int32 × Int32 × Int32 × Int32 × cr_Hp) ⊕ (Int32 × Int32 × cr_Hp)) (h : f_L_flick_b299 a4_ a5_ a6_ a7_ a2 a8 x0 x14_134 r155 r171 r251 z0_299 V208 = some x) (kl : ∀ (x10_134 : Int32) (x11_134 : Int32) (x12_134 : Int32) (x13_134 : Int32) (x14_134 : Int32) (V_l134 : cr_Hp), x = .inl (x10_134, x11_134, x12_134, x13_134, x14_134, V_l134) → cr_J w 21 p l e rm_L_flick s m args below meth c 2 24 Q V_l134 134 [(0, .int x0), (4, .ref (w.1 a4_)), (5, .ref (w.1 a5_)), (6, .ref (w.1 a6_)), (7, .ref (w.1 a7_)), (8, .ref (w.1 a2)), (9, .ref (w.1 a8)), (10, .int x10_134), (11, .int x11_134), (12, .int x12_134), (13, .int x13_134), (14, .int x14_134)] []) (kr411 : ∀ (u12_134_411 : Int32) (u14_134_411 : Int32) (V_e134_411 : cr_Hp), x = .inr (u12_134_411, u14_134_411, V_e134_411) → cr_J w 21 p l e rm_L_flick s m args below meth c 2 24 Q V_e134_411 411 [(0, .int x0), (4, .ref (w.1 a4_)), (5, .ref (w.1 a5_)), (6, .ref (w.1 a6_)), (7, .ref (w.1 a7_)), (8, .ref (w.1 a2)), (9, .ref (w.1 a8)), (12, .int u12_134_411), (14, .int u14_134_411)] []) : cr_J w 21 p l e rm_L_flick s m args below meth c 2 24 Q V208 299 [(0, .int x0), (4, .ref (w.1 a4_)), (5, .ref (w.1 a5_)), (6, .ref (w.1 a6_)), (7, .ref (w.1 a7_)), (8, .ref (w.1 a2)), (9, .ref (w.1 a8)), (10, .int r155), (11, .int r171), (14, .int x14_134), (19, .int r251)] [.int z0_299] := by
  unfold f_L_flick_b299 at h
  refine jr_istore X.c (lv2 := [(13, .int z0_299), (0, .int x0), (4, .ref (w.1 a4_)), (5, .ref (w.1 a5_)), (6, .ref (w.1 a6_)), (7, .ref (w.1 a7_)), (8, .ref (w.1 a2)), (9, .ref (w.1 a8)), (10, .int r155), (11, .int r171), (14, .int x14_134), (19, .int r251)]) dL_flick_299 (by decide) rfl ?_
  refine jr_aload X.c dL_flick_301 7 rfl ?_
  refine jr_iload X.c dL_flick_303 11 rfl ?_
  refine jr_dup2 X.c dL_flick_305 rfl rfl ?_
  obtain ⟨hi306, h⟩ := cr_gd_s h
  refine jr_iald X.c (cr_l_iv ha8) ((cr_row_iv ha8) _) hi306 dL_flick_306 ?_
  refine jr_iconst X.c (v := (1 : Int32)) dL_flick_307 (by decide) ?_
  refine jr_iadd X.c dL_flick_308 ?_
  obtain ⟨hi309, h⟩ := cr_gd_s h
  obtain ⟨V309, eV309, h⟩ := cr_lt_s h
  refine jr_iast X.c (cr_l_iv ha8) (cr_row_iv ha8) hi309 dL_flick_309 eV309 ?_
  refine jr_iinc X.c (v := (x14_134 + (1 : Int32))) (lv2 := [(14, .int (x14_134 + (1 : Int32))), (13, .int z0_299), (0, .int x0), (4, .ref (w.1 a4_)), (5, .ref (w.1 a5_)), (6, .ref (w.1 a6_)), (7, .ref (w.1 a7_)), (8, .ref (w.1 a2)), (9, .ref (w.1 a8)), (10, .int r155), (11, .int r171), (19, .int r251)]) dL_flick_310 10 rfl (by rfl) (by decide) rfl ?_
  refine jr_iload X.c dL_flick_313 11 rfl ?_
  refine jr_istore X.c (lv2 := [(12, .int r251), (14, .int (x14_134 + (1 : Int32))), (13, .int z0_299), (0, .int x0), (4, .ref (w.1 a4_)), (5, .ref (w.1 a5_)), (6, .ref (w.1 a6_)), (7, .ref (w.1 a7_)), (8, .ref (w.1 a2)), (9, .ref (w.1 a8)), (10, .int r155), (11, .int r171), (19, .int r251)]) dL_flick_315 (by decide) rfl ?_
  refine jr_goto X.c 134 dL_flick_317 (by decide) ?_
  cases h
  refine jr_sub [3, 4, 5, 6, 7, 8, 9, 10, 11, 0, 2, 1] rfl ?_
  exact kl r155 r171 r251 z0_299 (x14_134 + (1 : Int32)) V309 rfl
def f_L_flick_b206 (a4_ : Nat) (a5_ : Nat) (a6_ : Nat) (a7_ : Nat) (a2 : Nat) (a8 : Nat) (x0 : Int32) (x12_134 : Int32) (x13_134 : Int32) (x14_134 : Int32) (r155 : Int32) (r171 : Int32) (z0_194 : Int32) (z1_194 : Int32) (z0_206 : Int32) (V_l134 : cr_Hp) : Option ((Int32 × Int32 × Int32 × Int32 × Int32 × cr_Hp) ⊕ (Int32 × Int32 × cr_Hp)) :=
  cr_gd (cr_ix (7 : Int32) 8) (cr_lt (cr_pt V_l134 a4_ (7 : Int32).toNatClampNeg (z1_194 + (z0_194 + z0_206))) (fun (V208 : cr_Hp) => cr_gd (cr_ix ((5 : Int32) * x12_134) 60) (cr_lt (((V208 a5_ ((5 : Int32) * x12_134).toNatClampNeg) + r155)) (fun (n227 : Int32) => cr_gd (cr_ix (((5 : Int32) * x12_134) + (1 : Int32)) 60) (cr_lt (((V208 a5_ (((5 : Int32) * x12_134) + (1 : Int32)).toNatClampNeg) + r171)) (fun (n241 : Int32) => cr_bd (f_L_at a4_ a5_ n227 n241 V208) (fun (r251 : Int32) => if r251 < 0 then (cr_bd (cr_it (fun (q : Int32 × Int32) => f_L_flick_l326 a4_ a5_ a6_ a7_ a2 a8 x0 x12_134 x14_134 r155 r171 n227 n241 q.1 q.2 V208) cr_FU ((x13_134 + (-1 : Int32)), (0 : Int32))) (fun (u13_326_388 : Int32) => cr_gd (cr_ix ((5 : Int32) * x12_134) 60) (cr_lt (cr_pt V208 a5_ ((5 : Int32) * x12_134).toNatClampNeg n227) (fun (V396 : cr_Hp) => cr_gd (cr_ix (((5 : Int32) * x12_134) + (1 : Int32)) 60) (cr_lt (cr_pt V396 a5_ (((5 : Int32) * x12_134) + (1 : Int32)).toNatClampNeg n241) (fun (V407 : cr_Hp) => some (.inl (r155, r171, x12_134, u13_326_388, x14_134, V407)))))))) else (cr_gd (cr_ix (((5 : Int32) * x12_134) + (2 : Int32)) 60) (cr_gd (cr_ix (((5 : Int32) * r251) + (2 : Int32)) 60) (cr_gd (¬ (V208 a5_ (((5 : Int32) * r251) + (2 : Int32)).toNatClampNeg) = 0) (cr_lt (((x13_134 * (V208 a5_ (((5 : Int32) * x12_134) + (2 : Int32)).toNatClampNeg)) / (V208 a5_ (((5 : Int32) * r251) + (2 : Int32)).toNatClampNeg))) (fun (n283 : Int32) => if n283 ≤ (40 : Int32) then (f_L_flick_b299 a4_ a5_ a6_ a7_ a2 a8 x0 x14_134 r155 r171 r251 n283 V208) else (f_L_flick_b299 a4_ a5_ a6_ a7_ a2 a8 x0 x14_134 r155 r171 r251 (40 : Int32) V208)))))))))))))
set_option maxRecDepth 100000 in
set_option maxHeartbeats 4000000 in
theorem t_L_flick_b206 {p : Program} {l : Launch} {e : Env} {s : State} {m : MethodId} {args : Array Value} {below : List Frame} {meth : Method} {c : Code} {w : cr_Wd} {Q : State → Prop} (X : cr_Cx w RL (Cond.code yL_flick cL_flick 21 none) cL_flick 21 p s m args meth c) (a4_ : Nat) (a5_ : Nat) (a6_ : Nat) (a7_ : Nat) (a2 : Nat) (a8 : Nat) (x0 : Int32) (x12_134 : Int32) (x13_134 : Int32) (x14_134 : Int32) (r155 : Int32) (r171 : Int32) (z0_194 : Int32) (z1_194 : Int32) (z0_206 : Int32) (V_l134 : cr_Hp) (ha4_ : cr_iv w 8 a4_) (ha5_ : cr_iv w 60 a5_) (ha6_ : cr_iv w 12 a6_) (ha7_ : cr_iv w 5 a7_) (ha2 : cr_iv w 12 a2) (ha8 : cr_iv w 12 a8) (x : (Int32 × Int32 × Int32 × Int32 × Int32 × cr_Hp) ⊕ (Int32 × Int32 × cr_Hp)) (h : f_L_flick_b206 a4_ a5_ a6_ a7_ a2 a8 x0 x12_134 x13_134 x14_134 r155 r171 z0_194 z1_194 z0_206 V_l134 = some x) (kl : ∀ (x10_134 : Int32) (x11_134 : Int32) (x12_134 : Int32) (x13_134 : Int32) (x14_134 : Int32) (V_l134 : cr_Hp), x = .inl (x10_134, x11_134, x12_134, x13_134, x14_134, V_l134) → cr_J w 21 p l e rm_L_flick s m args below meth c 2 24 Q V_l134 134 [(0, .int x0), (4, .ref (w.1 a4_)), (5, .ref (w.1 a5_)), (6, .ref (w.1 a6_)), (7, .ref (w.1 a7_)), (8, .ref (w.1 a2)), (9, .ref (w.1 a8)), (10, .int x10_134), (11, .int x11_134), (12, .int x12_134), (13, .int x13_134), (14, .int x14_134)] []) (kr411 : ∀ (u12_134_411 : Int32) (u14_134_411 : Int32) (V_e134_411 : cr_Hp), x = .inr (u12_134_411, u14_134_411, V_e134_411) → cr_J w 21 p l e rm_L_flick s m args below meth c 2 24 Q V_e134_411 411 [(0, .int x0), (4, .ref (w.1 a4_)), (5, .ref (w.1 a5_)), (6, .ref (w.1 a6_)), (7, .ref (w.1 a7_)), (8, .ref (w.1 a2)), (9, .ref (w.1 a8)), (12, .int u12_134_411), (14, .int u14_134_411)] []) : cr_J w 21 p l e rm_L_flick s m args below meth c 2 24 Q V_l134 206 [(0, .int x0), (4, .ref (w.1 a4_)), (5, .ref (w.1 a5_)), (6, .ref (w.1 a6_)), (7, .ref (w.1 a7_)), (8, .ref (w.1 a2)), (9, .ref (w.1 a8)), (12, .int x12_134), (13, .int x13_134), (14, .int x14_134), (15, .int r155), (16, .int r171)] [.int z0_206, .int z0_194, .int z1_194, .int (7 : Int32), .ref (w.1 a4_)] := by
  unfold f_L_flick_b206 at h
  refine jr_iadd X.c dL_flick_206 ?_
  refine jr_iadd X.c dL_flick_207 ?_
  obtain ⟨hi208, h⟩ := cr_gd_s h
  obtain ⟨V208, eV208, h⟩ := cr_lt_s h
  refine jr_iast X.c (cr_l_iv ha4_) (cr_row_iv ha4_) hi208 dL_flick_208 eV208 ?_
  refine jr_iload X.c dL_flick_209 10 rfl ?_
  refine jr_istore X.c (lv2 := [(10, .int r155), (0, .int x0), (4, .ref (w.1 a4_)), (5, .ref (w.1 a5_)), (6, .ref (w.1 a6_)), (7, .ref (w.1 a7_)), (8, .ref (w.1 a2)), (9, .ref (w.1 a8)), (12, .int x12_134), (13, .int x13_134), (14, .int x14_134), (15, .int r155), (16, .int r171)]) dL_flick_211 (by decide) rfl ?_
  refine jr_iload X.c dL_flick_213 12 rfl ?_
  refine jr_istore X.c (lv2 := [(11, .int r171), (10, .int r155), (0, .int x0), (4, .ref (w.1 a4_)), (5, .ref (w.1 a5_)), (6, .ref (w.1 a6_)), (7, .ref (w.1 a7_)), (8, .ref (w.1 a2)), (9, .ref (w.1 a8)), (12, .int x12_134), (13, .int x13_134), (14, .int x14_134), (15, .int r155), (16, .int r171)]) dL_flick_215 (by decide) rfl ?_
  refine jr_aload X.c dL_flick_217 4 rfl ?_
  refine jr_iconst X.c (v := (5 : Int32)) dL_flick_219 (by decide) ?_
  refine jr_iload X.c dL_flick_220 9 rfl ?_
  refine jr_imul X.c dL_flick_222 ?_
  obtain ⟨hi223, h⟩ := cr_gd_s h
  refine jr_iald X.c (cr_l_iv ha5_) ((cr_row_iv ha5_) _) hi223 dL_flick_223 ?_
  refine jr_iload X.c dL_flick_224 1 rfl ?_
  refine jr_iadd X.c dL_flick_226 ?_
  obtain ⟨n227, en227, h⟩ := cr_lt_s h
  refine jr_top en227 ?_
  refine jr_istore X.c (lv2 := [(17, .int n227), (11, .int r171), (10, .int r155), (0, .int x0), (4, .ref (w.1 a4_)), (5, .ref (w.1 a5_)), (6, .ref (w.1 a6_)), (7, .ref (w.1 a7_)), (8, .ref (w.1 a2)), (9, .ref (w.1 a8)), (12, .int x12_134), (13, .int x13_134), (14, .int x14_134), (15, .int r155), (16, .int r171)]) dL_flick_227 (by decide) rfl ?_
  refine jr_aload X.c dL_flick_229 5 rfl ?_
  refine jr_iconst X.c (v := (5 : Int32)) dL_flick_231 (by decide) ?_
  refine jr_iload X.c dL_flick_232 10 rfl ?_
  refine jr_imul X.c dL_flick_234 ?_
  refine jr_iconst X.c (v := (1 : Int32)) dL_flick_235 (by decide) ?_
  refine jr_iadd X.c dL_flick_236 ?_
  obtain ⟨hi237, h⟩ := cr_gd_s h
  refine jr_iald X.c (cr_l_iv ha5_) ((cr_row_iv ha5_) _) hi237 dL_flick_237 ?_
  refine jr_iload X.c dL_flick_238 1 rfl ?_
  refine jr_iadd X.c dL_flick_240 ?_
  obtain ⟨n241, en241, h⟩ := cr_lt_s h
  refine jr_top en241 ?_
  refine jr_istore X.c (lv2 := [(18, .int n241), (17, .int n227), (11, .int r171), (10, .int r155), (0, .int x0), (4, .ref (w.1 a4_)), (5, .ref (w.1 a5_)), (6, .ref (w.1 a6_)), (7, .ref (w.1 a7_)), (8, .ref (w.1 a2)), (9, .ref (w.1 a8)), (12, .int x12_134), (13, .int x13_134), (14, .int x14_134), (15, .int r155), (16, .int r171)]) dL_flick_241 (by decide) rfl ?_
  refine jr_iload X.c dL_flick_243 1 rfl ?_
  refine jr_iload X.c dL_flick_245 0 rfl ?_
  refine jr_aload X.c dL_flick_247 5 rfl ?_
  refine jr_aload X.c dL_flick_249 6 rfl ?_
  obtain ⟨r251, hr251, h⟩ := cr_bd_s h
  refine jc_Si X.c (As := [.int n227, .int n241, .ref (w.1 a4_), .ref (w.1 a5_)]) (V1 := V208) 4 (m_L_at l w V208 a4_ a5_ n227 n241 ha4_ ha5_ r251 hr251) ⟨rfl, rfl⟩ ml_L_24 st_L_at in_L cd_L_at hd_L_at ⟨Nat.le_of_ble_eq_true rfl, Nat.le_of_ble_eq_true rfl⟩ ⟨Nat.le_of_ble_eq_true rfl, Nat.le_of_ble_eq_true rfl⟩ rfl (Nat.le_of_ble_eq_true rfl) rfl dL_flick_251 ?_
  refine jr_istore X.c (lv2 := [(19, .int r251), (18, .int n241), (17, .int n227), (11, .int r171), (10, .int r155), (0, .int x0), (4, .ref (w.1 a4_)), (5, .ref (w.1 a5_)), (6, .ref (w.1 a6_)), (7, .ref (w.1 a7_)), (8, .ref (w.1 a2)), (9, .ref (w.1 a8)), (12, .int x12_134), (13, .int x13_134), (14, .int x14_134), (15, .int r155), (16, .int r171)]) dL_flick_254 (by decide) rfl ?_
  refine jr_iload X.c dL_flick_256 0 rfl ?_
  refine jr_if_lt X.c 320 dL_flick_258 (by decide) (fun q258 => ?_) (fun q258 => ?_)
  · replace h := cr_if_t q258 h
    refine jr_iinc X.c (v := (x13_134 + (-1 : Int32))) (lv2 := [(13, .int (x13_134 + (-1 : Int32))), (19, .int r251), (18, .int n241), (17, .int n227), (11, .int r171), (10, .int r155), (0, .int x0), (4, .ref (w.1 a4_)), (5, .ref (w.1 a5_)), (6, .ref (w.1 a6_)), (7, .ref (w.1 a7_)), (8, .ref (w.1 a2)), (9, .ref (w.1 a8)), (12, .int x12_134), (14, .int x14_134), (15, .int r155), (16, .int r171)]) dL_flick_320 13 rfl (by rfl) (by decide) rfl ?_
    refine jr_iconst X.c (v := (0 : Int32)) dL_flick_323 (by decide) ?_
    refine jr_istore X.c (lv2 := [(20, .int (0 : Int32)), (13, .int (x13_134 + (-1 : Int32))), (19, .int r251), (18, .int n241), (17, .int n227), (11, .int r171), (10, .int r155), (0, .int x0), (4, .ref (w.1 a4_)), (5, .ref (w.1 a5_)), (6, .ref (w.1 a6_)), (7, .ref (w.1 a7_)), (8, .ref (w.1 a2)), (9, .ref (w.1 a8)), (12, .int x12_134), (14, .int x14_134), (15, .int r155), (16, .int r171)]) dL_flick_324 (by decide) rfl ?_
    obtain ⟨e326, he326, h⟩ := cr_bd_s h
    have kx388 : ∀ (u13_326_388 : Int32), e326 = u13_326_388 → cr_J w 21 p l e rm_L_flick s m args below meth c 2 24 Q V208 388 [(0, .int x0), (4, .ref (w.1 a4_)), (5, .ref (w.1 a5_)), (6, .ref (w.1 a6_)), (7, .ref (w.1 a7_)), (8, .ref (w.1 a2)), (9, .ref (w.1 a8)), (10, .int r155), (11, .int r171), (12, .int x12_134), (13, .int u13_326_388), (14, .int x14_134), (17, .int n227), (18, .int n241)] [] := by
      intro u13_326_388 qx
      rw [qx] at h
      refine jr_aload X.c dL_flick_388 2 rfl ?_
      refine jr_iconst X.c (v := (5 : Int32)) dL_flick_390 (by decide) ?_
      refine jr_iload X.c dL_flick_391 9 rfl ?_
      refine jr_imul X.c dL_flick_393 ?_
      refine jr_iload X.c dL_flick_394 12 rfl ?_
      obtain ⟨hi396, h⟩ := cr_gd_s h
      obtain ⟨V396, eV396, h⟩ := cr_lt_s h
      refine jr_iast X.c (cr_l_iv ha5_) (cr_row_iv ha5_) hi396 dL_flick_396 eV396 ?_
      refine jr_aload X.c dL_flick_397 2 rfl ?_
      refine jr_iconst X.c (v := (5 : Int32)) dL_flick_399 (by decide) ?_
      refine jr_iload X.c dL_flick_400 9 rfl ?_
      refine jr_imul X.c dL_flick_402 ?_
      refine jr_iconst X.c (v := (1 : Int32)) dL_flick_403 (by decide) ?_
      refine jr_iadd X.c dL_flick_404 ?_
      refine jr_iload X.c dL_flick_405 13 rfl ?_
      obtain ⟨hi407, h⟩ := cr_gd_s h
      obtain ⟨V407, eV407, h⟩ := cr_lt_s h
      refine jr_iast X.c (cr_l_iv ha5_) (cr_row_iv ha5_) hi407 dL_flick_407 eV407 ?_
      refine jr_goto X.c 134 dL_flick_408 (by decide) ?_
      cases h
      refine jr_sub [0, 1, 2, 3, 4, 5, 6, 7, 8, 9, 10, 11] rfl ?_
      exact kl r155 r171 x12_134 u13_326_388 x14_134 V407 rfl
    refine jr_sub [7, 8, 9, 10, 11, 12, 13, 6, 5, 14, 1, 15, 4, 3, 0] rfl ?_
    refine cr_it_W (f := (fun (q : Int32 × Int32) => f_L_flick_l326 a4_ a5_ a6_ a7_ a2 a8 x0 x12_134 x14_134 r155 r171 n227 n241 q.1 q.2 V208)) (P := fun (q : Int32 × Int32) => cr_J w 21 p l e rm_L_flick s m args below meth c 2 24 Q V208 326 [(0, .int x0), (4, .ref (w.1 a4_)), (5, .ref (w.1 a5_)), (6, .ref (w.1 a6_)), (7, .ref (w.1 a7_)), (8, .ref (w.1 a2)), (9, .ref (w.1 a8)), (10, .int r155), (11, .int r171), (12, .int x12_134), (13, .int q.1), (14, .int x14_134), (17, .int n227), (18, .int n241), (20, .int q.2)] []) (K := fun z => z = e326) (fun q x hx kl kr => ?_) cr_FU ((x13_134 + (-1 : Int32)), (0 : Int32)) e326 he326 rfl
    obtain ⟨x13_326, x20_326⟩ := q
    exact t_L_flick_l326 X a4_ a5_ a6_ a7_ a2 a8 x0 x12_134 x14_134 r155 r171 n227 n241 x13_326 x20_326 V208 ha4_ ha5_ ha6_ ha7_ ha2 ha8 x hx (fun x13_326 x20_326 ez => kl _ ez) (fun u13_326_388 ez => kx388 u13_326_388 ((kr _ ez).symm))
  · replace h := cr_if_f q258 h
    refine jr_iload X.c dL_flick_261 13 rfl ?_
    refine jr_aload X.c dL_flick_263 7 rfl ?_
    refine jr_iconst X.c (v := (5 : Int32)) dL_flick_265 (by decide) ?_
    refine jr_iload X.c dL_flick_266 12 rfl ?_
    refine jr_imul X.c dL_flick_268 ?_
    refine jr_iconst X.c (v := (2 : Int32)) dL_flick_269 (by decide) ?_
    refine jr_iadd X.c dL_flick_270 ?_
    obtain ⟨hi271, h⟩ := cr_gd_s h
    refine jr_iald X.c (cr_l_iv ha5_) ((cr_row_iv ha5_) _) hi271 dL_flick_271 ?_
    refine jr_imul X.c dL_flick_272 ?_
    refine jr_aload X.c dL_flick_273 7 rfl ?_
    refine jr_iconst X.c (v := (5 : Int32)) dL_flick_275 (by decide) ?_
    refine jr_iload X.c dL_flick_276 0 rfl ?_
    refine jr_imul X.c dL_flick_278 ?_
    refine jr_iconst X.c (v := (2 : Int32)) dL_flick_279 (by decide) ?_
    refine jr_iadd X.c dL_flick_280 ?_
    obtain ⟨hi281, h⟩ := cr_gd_s h
    refine jr_iald X.c (cr_l_iv ha5_) ((cr_row_iv ha5_) _) hi281 dL_flick_281 ?_
    obtain ⟨hk282, h⟩ := cr_gd_s h
    refine jr_idiv X.c dL_flick_282 hk282 ?_
    obtain ⟨n283, en283, h⟩ := cr_lt_s h
    refine jr_top en283 ?_
    refine jr_istore X.c (lv2 := [(13, .int n283), (19, .int r251), (18, .int n241), (17, .int n227), (11, .int r171), (10, .int r155), (0, .int x0), (4, .ref (w.1 a4_)), (5, .ref (w.1 a5_)), (6, .ref (w.1 a6_)), (7, .ref (w.1 a7_)), (8, .ref (w.1 a2)), (9, .ref (w.1 a8)), (12, .int x12_134), (14, .int x14_134), (15, .int r155), (16, .int r171)]) dL_flick_283 (by decide) rfl ?_
    refine jr_iload X.c dL_flick_285 0 rfl ?_
    refine jr_bipush X.c (v := (40 : Int32)) dL_flick_287 (by decide) ?_
    refine jr_icmp_le X.c 297 dL_flick_289 (by decide) (fun q289 => ?_) (fun q289 => ?_)
    · replace h := cr_if_t q289 h
      refine jr_iload X.c dL_flick_297 0 rfl ?_
      refine jr_sub [6, 7, 8, 9, 10, 11, 12, 5, 4, 14, 1] rfl ?_
      exact t_L_flick_b299 X a4_ a5_ a6_ a7_ a2 a8 x0 x14_134 r155 r171 r251 n283 V208 ha4_ ha5_ ha6_ ha7_ ha2 ha8 x h kl kr411
    · replace h := cr_if_f q289 h
      refine jr_bipush X.c (v := (40 : Int32)) dL_flick_292 (by decide) ?_
      refine jr_goto X.c 299 dL_flick_294 (by decide) ?_
      refine jr_sub [6, 7, 8, 9, 10, 11, 12, 5, 4, 14, 1] rfl ?_
      exact t_L_flick_b299 X a4_ a5_ a6_ a7_ a2 a8 x0 x14_134 r155 r171 r251 (40 : Int32) V208 ha4_ ha5_ ha6_ ha7_ ha2 ha8 x h kl kr411
def f_L_flick_b194 (a4_ : Nat) (a5_ : Nat) (a6_ : Nat) (a7_ : Nat) (a2 : Nat) (a8 : Nat) (x0 : Int32) (x11_134 : Int32) (x12_134 : Int32) (x13_134 : Int32) (x14_134 : Int32) (r155 : Int32) (r171 : Int32) (z0_194 : Int32) (z1_194 : Int32) (V_l134 : cr_Hp) : Option ((Int32 × Int32 × Int32 × Int32 × Int32 × cr_Hp) ⊕ (Int32 × Int32 × cr_Hp)) :=
  if r171 = x11_134 then (f_L_flick_b206 a4_ a5_ a6_ a7_ a2 a8 x0 x12_134 x13_134 x14_134 r155 r171 z0_194 z1_194 (0 : Int32) V_l134) else (f_L_flick_b206 a4_ a5_ a6_ a7_ a2 a8 x0 x12_134 x13_134 x14_134 r155 r171 z0_194 z1_194 (1 : Int32) V_l134)
set_option maxRecDepth 100000 in
set_option maxHeartbeats 4000000 in
theorem t_L_flick_b194 {p : Program} {l : Launch} {e : Env} {s : State} {m : MethodId} {args : Array Value} {below : List Frame} {meth : Method} {c : Code} {w : cr_Wd} {Q : State → Prop} (X : cr_Cx w RL (Cond.code yL_flick cL_flick 21 none) cL_flick 21 p s m args meth c) (a4_ : Nat) (a5_ : Nat) (a6_ : Nat) (a7_ : Nat) (a2 : Nat) (a8 : Nat) (x0 : Int32) (x11_134 : Int32) (x12_134 : Int32) (x13_134 : Int32) (x14_134 : Int32) (r155 : Int32) (r171 : Int32) (z0_194 : Int32) (z1_194 : Int32) (V_l134 : cr_Hp) (ha4_ : cr_iv w 8 a4_) (ha5_ : cr_iv w 60 a5_) (ha6_ : cr_iv w 12 a6_) (ha7_ : cr_iv w 5 a7_) (ha2 : cr_iv w 12 a2) (ha8 : cr_iv w 12 a8) (x : (Int32 × Int32 × Int32 × Int32 × Int32 × cr_Hp) ⊕ (Int32 × Int32 × cr_Hp)) (h : f_L_flick_b194 a4_ a5_ a6_ a7_ a2 a8 x0 x11_134 x12_134 x13_134 x14_134 r155 r171 z0_194 z1_194 V_l134 = some x) (kl : ∀ (x10_134 : Int32) (x11_134 : Int32) (x12_134 : Int32) (x13_134 : Int32) (x14_134 : Int32) (V_l134 : cr_Hp), x = .inl (x10_134, x11_134, x12_134, x13_134, x14_134, V_l134) → cr_J w 21 p l e rm_L_flick s m args below meth c 2 24 Q V_l134 134 [(0, .int x0), (4, .ref (w.1 a4_)), (5, .ref (w.1 a5_)), (6, .ref (w.1 a6_)), (7, .ref (w.1 a7_)), (8, .ref (w.1 a2)), (9, .ref (w.1 a8)), (10, .int x10_134), (11, .int x11_134), (12, .int x12_134), (13, .int x13_134), (14, .int x14_134)] []) (kr411 : ∀ (u12_134_411 : Int32) (u14_134_411 : Int32) (V_e134_411 : cr_Hp), x = .inr (u12_134_411, u14_134_411, V_e134_411) → cr_J w 21 p l e rm_L_flick s m args below meth c 2 24 Q V_e134_411 411 [(0, .int x0), (4, .ref (w.1 a4_)), (5, .ref (w.1 a5_)), (6, .ref (w.1 a6_)), (7, .ref (w.1 a7_)), (8, .ref (w.1 a2)), (9, .ref (w.1 a8)), (12, .int u12_134_411), (14, .int u14_134_411)] []) : cr_J w 21 p l e rm_L_flick s m args below meth c 2 24 Q V_l134 194 [(0, .int x0), (4, .ref (w.1 a4_)), (5, .ref (w.1 a5_)), (6, .ref (w.1 a6_)), (7, .ref (w.1 a7_)), (8, .ref (w.1 a2)), (9, .ref (w.1 a8)), (11, .int x11_134), (12, .int x12_134), (13, .int x13_134), (14, .int x14_134), (15, .int r155), (16, .int r171)] [.int z0_194, .int z1_194, .int (7 : Int32), .ref (w.1 a4_)] := by
  unfold f_L_flick_b194 at h
  refine jr_iload X.c dL_flick_194 12 rfl ?_
  refine jr_iload X.c dL_flick_196 7 rfl ?_
  refine jr_icmp_ne X.c 205 dL_flick_198 (by decide) (fun q198 => ?_) (fun q198 => ?_)
  · replace h := cr_if_f q198 h
    refine jr_iconst X.c (v := (1 : Int32)) dL_flick_205 (by decide) ?_
    refine jr_sub [0, 1, 2, 3, 4, 5, 6, 8, 9, 10, 11, 12] rfl ?_
    exact t_L_flick_b206 X a4_ a5_ a6_ a7_ a2 a8 x0 x12_134 x13_134 x14_134 r155 r171 z0_194 z1_194 (1 : Int32) V_l134 ha4_ ha5_ ha6_ ha7_ ha2 ha8 x h kl kr411
  · replace h := cr_if_t q198 h
    refine jr_iconst X.c (v := (0 : Int32)) dL_flick_201 (by decide) ?_
    refine jr_goto X.c 206 dL_flick_202 (by decide) ?_
    refine jr_sub [0, 1, 2, 3, 4, 5, 6, 8, 9, 10, 11, 12] rfl ?_
    exact t_L_flick_b206 X a4_ a5_ a6_ a7_ a2 a8 x0 x12_134 x13_134 x14_134 r155 r171 z0_194 z1_194 (0 : Int32) V_l134 ha4_ ha5_ ha6_ ha7_ ha2 ha8 x h kl kr411
def f_L_flick_l134 (a4_ : Nat) (a5_ : Nat) (a6_ : Nat) (a7_ : Nat) (a2 : Nat) (a8 : Nat) (x0 : Int32) (x10_134 : Int32) (x11_134 : Int32) (x12_134 : Int32) (x13_134 : Int32) (x14_134 : Int32) (V_l134 : cr_Hp) : Option ((Int32 × Int32 × Int32 × Int32 × Int32 × cr_Hp) ⊕ (Int32 × Int32 × cr_Hp)) :=
  if x13_134 ≤ 0 then (some (.inr (x12_134, x14_134, V_l134))) else (if (60 : Int32) ≤ x14_134 then (some (.inr (x12_134, x14_134, V_l134))) else (cr_gd (cr_ix ((5 : Int32) * x12_134) 60) (cr_bd (f_L_turn (V_l134 a5_ ((5 : Int32) * x12_134).toNatClampNeg) x10_134) (fun (r155 : Int32) => cr_gd (cr_ix (((5 : Int32) * x12_134) + (1 : Int32)) 60) (cr_bd (f_L_turn (V_l134 a5_ (((5 : Int32) * x12_134) + (1 : Int32)).toNatClampNeg) x11_134) (fun (r171 : Int32) => cr_gd (cr_ix (7 : Int32) 8) (if r155 = x10_134 then (f_L_flick_b194 a4_ a5_ a6_ a7_ a2 a8 x0 x11_134 x12_134 x13_134 x14_134 r155 r171 (0 : Int32) (V_l134 a4_ (7 : Int32).toNatClampNeg) V_l134) else (f_L_flick_b194 a4_ a5_ a6_ a7_ a2 a8 x0 x11_134 x12_134 x13_134 x14_134 r155 r171 (1 : Int32) (V_l134 a4_ (7 : Int32).toNatClampNeg) V_l134))))))))
set_option maxRecDepth 100000 in
set_option maxHeartbeats 4000000 in
theorem t_L_flick_l134 {p : Program} {l : Launch} {e : Env} {s : State} {m : MethodId} {args : Array Value} {below : List Frame} {meth : Method} {c : Code} {w : cr_Wd} {Q : State → Prop} (X : cr_Cx w RL (Cond.code yL_flick cL_flick 21 none) cL_flick 21 p s m args meth c) (a4_ : Nat) (a5_ : Nat) (a6_ : Nat) (a7_ : Nat) (a2 : Nat) (a8 : Nat) (x0 : Int32) (x10_134 : Int32) (x11_134 : Int32) (x12_134 : Int32) (x13_134 : Int32) (x14_134 : Int32) (V_l134 : cr_Hp) (ha4_ : cr_iv w 8 a4_) (ha5_ : cr_iv w 60 a5_) (ha6_ : cr_iv w 12 a6_) (ha7_ : cr_iv w 5 a7_) (ha2 : cr_iv w 12 a2) (ha8 : cr_iv w 12 a8) (x : (Int32 × Int32 × Int32 × Int32 × Int32 × cr_Hp) ⊕ (Int32 × Int32 × cr_Hp)) (h : f_L_flick_l134 a4_ a5_ a6_ a7_ a2 a8 x0 x10_134 x11_134 x12_134 x13_134 x14_134 V_l134 = some x) (kl : ∀ (x10_134 : Int32) (x11_134 : Int32) (x12_134 : Int32) (x13_134 : Int32) (x14_134 : Int32) (V_l134 : cr_Hp), x = .inl (x10_134, x11_134, x12_134, x13_134, x14_134, V_l134) → cr_J w 21 p l e rm_L_flick s m args below meth c 2 24 Q V_l134 134 [(0, .int x0), (4, .ref (w.1 a4_)), (5, .ref (w.1 a5_)), (6, .ref (w.1 a6_)), (7, .ref (w.1 a7_)), (8, .ref (w.1 a2)), (9, .ref (w.1 a8)), (10, .int x10_134), (11, .int x11_134), (12, .int x12_134), (13, .int x13_134), (14, .int x14_134)] []) (kr411 : ∀ (u12_134_411 : Int32) (u14_134_411 : Int32) (V_e134_411 : cr_Hp), x = .inr (u12_134_411, u14_134_411, V_e134_411) → cr_J w 21 p l e rm_L_flick s m args below meth c 2 24 Q V_e134_411 411 [(0, .int x0), (4, .ref (w.1 a4_)), (5, .ref (w.1 a5_)), (6, .ref (w.1 a6_)), (7, .ref (w.1 a7_)), (8, .ref (w.1 a2)), (9, .ref (w.1 a8)), (12, .int u12_134_411), (14, .int u14_134_411)] []) : cr_J w 21 p l e rm_L_flick s m args below meth c 2 24 Q V_l134 134 [(0, .int x0), (4, .ref (w.1 a4_)), (5, .ref (w.1 a5_)), (6, .ref (w.1 a6_)), (7, .ref (w.1 a7_)), (8, .ref (w.1 a2)), (9, .ref (w.1 a8)), (10, .int x10_134), (11, .int x11_134), (12, .int x12_134), (13, .int x13_134), (14, .int x14_134)] [] := by
  unfold f_L_flick_l134 at h
  refine jr_iload X.c dL_flick_134 10 rfl ?_
  refine jr_if_le X.c 411 dL_flick_136 (by decide) (fun q136 => ?_) (fun q136 => ?_)
  · replace h := cr_if_t q136 h
    cases h
    refine jr_sub [0, 1, 2, 3, 4, 5, 6, 9, 11] rfl ?_
    exact kr411 x12_134 x14_134 V_l134 rfl
  · replace h := cr_if_f q136 h
    refine jr_iload X.c dL_flick_139 11 rfl ?_
    refine jr_bipush X.c (v := (60 : Int32)) dL_flick_141 (by decide) ?_
    refine jr_icmp_ge X.c 411 dL_flick_143 (by decide) (fun q143 => ?_) (fun q143 => ?_)
    · replace h := cr_if_t q143 h
      cases h
      refine jr_sub [0, 1, 2, 3, 4, 5, 6, 9, 11] rfl ?_
      exact kr411 x12_134 x14_134 V_l134 rfl
    · replace h := cr_if_f q143 h
      refine jr_aload X.c dL_flick_146 2 rfl ?_
      refine jr_iconst X.c (v := (5 : Int32)) dL_flick_148 (by decide) ?_
      refine jr_iload X.c dL_flick_149 9 rfl ?_
      refine jr_imul X.c dL_flick_151 ?_
      obtain ⟨hi152, h⟩ := cr_gd_s h
      refine jr_iald X.c (cr_l_iv ha5_) ((cr_row_iv ha5_) _) hi152 dL_flick_152 ?_
      refine jr_iload X.c dL_flick_153 7 rfl ?_
      obtain ⟨r155, hr155, h⟩ := cr_bd_s h
      refine jc_Si X.c (As := [.int (V_l134 a5_ ((5 : Int32) * x12_134).toNatClampNeg), .int x10_134]) (V1 := V_l134) 2 (m_L_turn l w V_l134 (V_l134 a5_ ((5 : Int32) * x12_134).toNatClampNeg) x10_134  r155 hr155) ⟨rfl, rfl⟩ ml_L_20 st_L_turn in_L cd_L_turn hd_L_turn ⟨Nat.le_of_ble_eq_true rfl, Nat.le_of_ble_eq_true rfl⟩ ⟨Nat.le_of_ble_eq_true rfl, Nat.le_of_ble_eq_true rfl⟩ rfl (Nat.le_of_ble_eq_true rfl) rfl dL_flick_155 ?_
      refine jr_istore X.c (lv2 := [(15, .int r155), (0, .int x0), (4, .ref (w.1 a4_)), (5, .ref (w.1 a5_)), (6, .ref (w.1 a6_)), (7, .ref (w.1 a7_)), (8, .ref (w.1 a2)), (9, .ref (w.1 a8)), (10, .int x10_134), (11, .int x11_134), (12, .int x12_134), (13, .int x13_134), (14, .int x14_134)]) dL_flick_158 (by decide) rfl ?_
      refine jr_aload X.c dL_flick_160 3 rfl ?_
      refine jr_iconst X.c (v := (5 : Int32)) dL_flick_162 (by decide) ?_
      refine jr_iload X.c dL_flick_163 10 rfl ?_
      refine jr_imul X.c dL_flick_165 ?_
      refine jr_iconst X.c (v := (1 : Int32)) dL_flick_166 (by decide) ?_
      refine jr_iadd X.c dL_flick_167 ?_
      obtain ⟨hi168, h⟩ := cr_gd_s h
      refine jr_iald X.c (cr_l_iv ha5_) ((cr_row_iv ha5_) _) hi168 dL_flick_168 ?_
      refine jr_iload X.c dL_flick_169 9 rfl ?_
      obtain ⟨r171, hr171, h⟩ := cr_bd_s h
      refine jc_Si X.c (As := [.int (V_l134 a5_ (((5 : Int32) * x12_134) + (1 : Int32)).toNatClampNeg), .int x11_134]) (V1 := V_l134) 2 (m_L_turn l w V_l134 (V_l134 a5_ (((5 : Int32) * x12_134) + (1 : Int32)).toNatClampNeg) x11_134  r171 hr171) ⟨rfl, rfl⟩ ml_L_20 st_L_turn in_L cd_L_turn hd_L_turn ⟨Nat.le_of_ble_eq_true rfl, Nat.le_of_ble_eq_true rfl⟩ ⟨Nat.le_of_ble_eq_true rfl, Nat.le_of_ble_eq_true rfl⟩ rfl (Nat.le_of_ble_eq_true rfl) rfl dL_flick_171 ?_
      refine jr_istore X.c (lv2 := [(16, .int r171), (15, .int r155), (0, .int x0), (4, .ref (w.1 a4_)), (5, .ref (w.1 a5_)), (6, .ref (w.1 a6_)), (7, .ref (w.1 a7_)), (8, .ref (w.1 a2)), (9, .ref (w.1 a8)), (10, .int x10_134), (11, .int x11_134), (12, .int x12_134), (13, .int x13_134), (14, .int x14_134)]) dL_flick_174 (by decide) rfl ?_
      refine jr_aload X.c dL_flick_176 3 rfl ?_
      refine jr_bipush X.c (v := (7 : Int32)) dL_flick_178 (by decide) ?_
      refine jr_dup2 X.c dL_flick_180 rfl rfl ?_
      obtain ⟨hi181, h⟩ := cr_gd_s h
      refine jr_iald X.c (cr_l_iv ha4_) ((cr_row_iv ha4_) _) hi181 dL_flick_181 ?_
      refine jr_iload X.c dL_flick_182 1 rfl ?_
      refine jr_iload X.c dL_flick_184 9 rfl ?_
      refine jr_icmp_ne X.c 193 dL_flick_186 (by decide) (fun q186 => ?_) (fun q186 => ?_)
      · replace h := cr_if_f q186 h
        refine jr_iconst X.c (v := (1 : Int32)) dL_flick_193 (by decide) ?_
        refine jr_sub [2, 3, 4, 5, 6, 7, 8, 10, 11, 12, 13, 1, 0] rfl ?_
        exact t_L_flick_b194 X a4_ a5_ a6_ a7_ a2 a8 x0 x11_134 x12_134 x13_134 x14_134 r155 r171 (1 : Int32) (V_l134 a4_ (7 : Int32).toNatClampNeg) V_l134 ha4_ ha5_ ha6_ ha7_ ha2 ha8 x h kl kr411
      · replace h := cr_if_t q186 h
        refine jr_iconst X.c (v := (0 : Int32)) dL_flick_189 (by decide) ?_
        refine jr_goto X.c 194 dL_flick_190 (by decide) ?_
        refine jr_sub [2, 3, 4, 5, 6, 7, 8, 10, 11, 12, 13, 1, 0] rfl ?_
        exact t_L_flick_b194 X a4_ a5_ a6_ a7_ a2 a8 x0 x11_134 x12_134 x13_134 x14_134 r155 r171 (0 : Int32) (V_l134 a4_ (7 : Int32).toNatClampNeg) V_l134 ha4_ ha5_ ha6_ ha7_ ha2 ha8 x h kl kr411
def f_L_flick_l463 (a4_ : Nat) (a5_ : Nat) (a6_ : Nat) (a7_ : Nat) (a2 : Nat) (a8 : Nat) (x0 : Int32) (u14_134_411 : Int32) (x15_463 : Int32) (x16_463 : Int32) (V_l463 : cr_Hp) : Option ((Int32 × Int32 × cr_Hp) ⊕ (Int32 × cr_Hp)) :=
  cr_gd (cr_ix (0 : Int32) 8) (if (V_l463 a4_ (0 : Int32).toNatClampNeg) ≤ x16_463 then (some (.inr (x15_463, V_l463))) else (cr_gd (cr_ix x16_463 12) (if (V_l463 a8 x16_463.toNatClampNeg) = 0 then (some (.inl (x15_463, (x16_463 + (1 : Int32)), V_l463))) else (cr_gd (cr_ix (((5 : Int32) * x16_463) + (3 : Int32)) 60) (if (V_l463 a5_ (((5 : Int32) * x16_463) + (3 : Int32)).toNatClampNeg) = x0 then (some (.inl (x15_463, (x16_463 + (1 : Int32)), V_l463))) else (cr_gd (cr_ix x16_463 12) (if (V_l463 a2 x16_463.toNatClampNeg) = 0 then (some (.inl (x15_463, (x16_463 + (1 : Int32)), V_l463))) else (cr_gd (cr_ix ((5 : Int32) * x16_463) 60) (cr_gd (cr_ix (((5 : Int32) * x16_463) + (1 : Int32)) 60) (cr_bd (f_L_rings a4_ a6_ (V_l463 a5_ ((5 : Int32) * x16_463).toNatClampNeg) (V_l463 a5_ (((5 : Int32) * x16_463) + (1 : Int32)).toNatClampNeg) V_l463) (fun (r521 : Int32) => if r521 = 0 then (cr_gd (cr_ix (0 : Int32) 5) (cr_gd (cr_ix (0 : Int32) 5) (cr_lt (cr_pt V_l463 a7_ (0 : Int32).toNatClampNeg ((V_l463 a7_ (0 : Int32).toNatClampNeg) + (1 : Int32))) (fun (V537 : cr_Hp) => cr_gd (cr_ix (1 : Int32) 5) (cr_gd (cr_ix (((5 : Int32) * x16_463) + (2 : Int32)) 60) (cr_gd (cr_ix (1 : Int32) 5) (cr_lt (cr_pt V537 a7_ (1 : Int32).toNatClampNeg ((V537 a7_ (1 : Int32).toNatClampNeg) + (V537 a5_ (((5 : Int32) * x16_463) + (2 : Int32)).toNatClampNeg))) (fun (V553 : cr_Hp) => cr_gd (cr_ix x16_463 12) (cr_lt ((x15_463 ||| (V553 a2 x16_463.toNatClampNeg))) (fun (n562 : Int32) => cr_gd (cr_ix (((5 : Int32) * x16_463) + (4 : Int32)) 60) (cr_lt (cr_pt V553 a5_ (((5 : Int32) * x16_463) + (4 : Int32)).toNatClampNeg x0) (fun (V573 : cr_Hp) => some (.inl (n562, (x16_463 + (1 : Int32)), V573)))))))))))))) else (some (.inl (x15_463, (x16_463 + (1 : Int32)), V_l463))))))))))))))
set_option maxRecDepth 100000 in
set_option maxHeartbeats 4000000 in
theorem t_L_flick_l463 {p : Program} {l : Launch} {e : Env} {s : State} {m : MethodId} {args : Array Value} {below : List Frame} {meth : Method} {c : Code} {w : cr_Wd} {Q : State → Prop} (X : cr_Cx w RL (Cond.code yL_flick cL_flick 21 none) cL_flick 21 p s m args meth c) (a4_ : Nat) (a5_ : Nat) (a6_ : Nat) (a7_ : Nat) (a2 : Nat) (a8 : Nat) (x0 : Int32) (u14_134_411 : Int32) (x15_463 : Int32) (x16_463 : Int32) (V_l463 : cr_Hp) (ha4_ : cr_iv w 8 a4_) (ha5_ : cr_iv w 60 a5_) (ha6_ : cr_iv w 12 a6_) (ha7_ : cr_iv w 5 a7_) (ha2 : cr_iv w 12 a2) (ha8 : cr_iv w 12 a8) (x : (Int32 × Int32 × cr_Hp) ⊕ (Int32 × cr_Hp)) (h : f_L_flick_l463 a4_ a5_ a6_ a7_ a2 a8 x0 u14_134_411 x15_463 x16_463 V_l463 = some x) (kl : ∀ (x15_463 : Int32) (x16_463 : Int32) (V_l463 : cr_Hp), x = .inl (x15_463, x16_463, V_l463) → cr_J w 21 p l e rm_L_flick s m args below meth c 2 24 Q V_l463 463 [(0, .int x0), (4, .ref (w.1 a4_)), (5, .ref (w.1 a5_)), (6, .ref (w.1 a6_)), (7, .ref (w.1 a7_)), (8, .ref (w.1 a2)), (9, .ref (w.1 a8)), (14, .int u14_134_411), (15, .int x15_463), (16, .int x16_463)] []) (kr580 : ∀ (u15_463_580 : Int32) (V_e463_580 : cr_Hp), x = .inr (u15_463_580, V_e463_580) → cr_J w 21 p l e rm_L_flick s m args below meth c 2 24 Q V_e463_580 580 [(4, .ref (w.1 a4_)), (6, .ref (w.1 a6_)), (7, .ref (w.1 a7_)), (14, .int u14_134_411), (15, .int u15_463_580)] []) : cr_J w 21 p l e rm_L_flick s m args below meth c 2 24 Q V_l463 463 [(0, .int x0), (4, .ref (w.1 a4_)), (5, .ref (w.1 a5_)), (6, .ref (w.1 a6_)), (7, .ref (w.1 a7_)), (8, .ref (w.1 a2)), (9, .ref (w.1 a8)), (14, .int u14_134_411), (15, .int x15_463), (16, .int x16_463)] [] := by
  unfold f_L_flick_l463 at h
  refine jr_iload X.c dL_flick_463 9 rfl ?_
  refine jr_aload X.c dL_flick_465 1 rfl ?_
  refine jr_iconst X.c (v := (0 : Int32)) dL_flick_467 (by decide) ?_
  obtain ⟨hi468, h⟩ := cr_gd_s h
  refine jr_iald X.c (cr_l_iv ha4_) ((cr_row_iv ha4_) _) hi468 dL_flick_468 ?_
  refine jr_icmp_ge X.c 580 dL_flick_469 (by decide) (fun q469 => ?_) (fun q469 => ?_)
  · replace h := cr_if_t q469 h
    cases h
    refine jr_sub [1, 3, 4, 7, 8] rfl ?_
    exact kr580 x15_463 V_l463 rfl
  · replace h := cr_if_f q469 h
    refine jr_aload X.c dL_flick_472 6 rfl ?_
    refine jr_iload X.c dL_flick_474 9 rfl ?_
    obtain ⟨hi476, h⟩ := cr_gd_s h
    refine jr_iald X.c (cr_l_iv ha8) ((cr_row_iv ha8) _) hi476 dL_flick_476 ?_
    refine jr_if_eq X.c 574 dL_flick_477 (by decide) (fun q477 => ?_) (fun q477 => ?_)
    · replace h := cr_if_t q477 h
      refine jr_iinc X.c (v := (x16_463 + (1 : Int32))) (lv2 := [(16, .int (x16_463 + (1 : Int32))), (0, .int x0), (4, .ref (w.1 a4_)), (5, .ref (w.1 a5_)), (6, .ref (w.1 a6_)), (7, .ref (w.1 a7_)), (8, .ref (w.1 a2)), (9, .ref (w.1 a8)), (14, .int u14_134_411), (15, .int x15_463)]) dL_flick_574 9 rfl (by rfl) (by decide) rfl ?_
      refine jr_goto X.c 463 dL_flick_577 (by decide) ?_
      cases h
      refine jr_sub [1, 2, 3, 4, 5, 6, 7, 8, 9, 0] rfl ?_
      exact kl x15_463 (x16_463 + (1 : Int32)) V_l463 rfl
    · replace h := cr_if_f q477 h
      refine jr_aload X.c dL_flick_480 2 rfl ?_
      refine jr_iconst X.c (v := (5 : Int32)) dL_flick_482 (by decide) ?_
      refine jr_iload X.c dL_flick_483 9 rfl ?_
      refine jr_imul X.c dL_flick_485 ?_
      refine jr_iconst X.c (v := (3 : Int32)) dL_flick_486 (by decide) ?_
      refine jr_iadd X.c dL_flick_487 ?_
      obtain ⟨hi488, h⟩ := cr_gd_s h
      refine jr_iald X.c (cr_l_iv ha5_) ((cr_row_iv ha5_) _) hi488 dL_flick_488 ?_
      refine jr_iload_n X.c dL_flick_489 rfl 0 rfl ?_
      refine jr_icmp_eq X.c 574 dL_flick_490 (by decide) (fun q490 => ?_) (fun q490 => ?_)
      · replace h := cr_if_t q490 h
        refine jr_iinc X.c (v := (x16_463 + (1 : Int32))) (lv2 := [(16, .int (x16_463 + (1 : Int32))), (0, .int x0), (4, .ref (w.1 a4_)), (5, .ref (w.1 a5_)), (6, .ref (w.1 a6_)), (7, .ref (w.1 a7_)), (8, .ref (w.1 a2)), (9, .ref (w.1 a8)), (14, .int u14_134_411), (15, .int x15_463)]) dL_flick_574 9 rfl (by rfl) (by decide) rfl ?_
        refine jr_goto X.c 463 dL_flick_577 (by decide) ?_
        cases h
        refine jr_sub [1, 2, 3, 4, 5, 6, 7, 8, 9, 0] rfl ?_
        exact kl x15_463 (x16_463 + (1 : Int32)) V_l463 rfl
      · replace h := cr_if_f q490 h
        refine jr_aload X.c dL_flick_493 5 rfl ?_
        refine jr_iload X.c dL_flick_495 9 rfl ?_
        obtain ⟨hi497, h⟩ := cr_gd_s h
        refine jr_iald X.c (cr_l_iv ha2) ((cr_row_iv ha2) _) hi497 dL_flick_497 ?_
        refine jr_if_eq X.c 574 dL_flick_498 (by decide) (fun q498 => ?_) (fun q498 => ?_)
        · replace h := cr_if_t q498 h
          refine jr_iinc X.c (v := (x16_463 + (1 : Int32))) (lv2 := [(16, .int (x16_463 + (1 : Int32))), (0, .int x0), (4, .ref (w.1 a4_)), (5, .ref (w.1 a5_)), (6, .ref (w.1 a6_)), (7, .ref (w.1 a7_)), (8, .ref (w.1 a2)), (9, .ref (w.1 a8)), (14, .int u14_134_411), (15, .int x15_463)]) dL_flick_574 9 rfl (by rfl) (by decide) rfl ?_
          refine jr_goto X.c 463 dL_flick_577 (by decide) ?_
          cases h
          refine jr_sub [1, 2, 3, 4, 5, 6, 7, 8, 9, 0] rfl ?_
          exact kl x15_463 (x16_463 + (1 : Int32)) V_l463 rfl
        · replace h := cr_if_f q498 h
          refine jr_aload X.c dL_flick_501 2 rfl ?_
          refine jr_iconst X.c (v := (5 : Int32)) dL_flick_503 (by decide) ?_
          refine jr_iload X.c dL_flick_504 9 rfl ?_
          refine jr_imul X.c dL_flick_506 ?_
          obtain ⟨hi507, h⟩ := cr_gd_s h
          refine jr_iald X.c (cr_l_iv ha5_) ((cr_row_iv ha5_) _) hi507 dL_flick_507 ?_
          refine jr_aload X.c dL_flick_508 2 rfl ?_
          refine jr_iconst X.c (v := (5 : Int32)) dL_flick_510 (by decide) ?_
          refine jr_iload X.c dL_flick_511 9 rfl ?_
          refine jr_imul X.c dL_flick_513 ?_
          refine jr_iconst X.c (v := (1 : Int32)) dL_flick_514 (by decide) ?_
          refine jr_iadd X.c dL_flick_515 ?_
          obtain ⟨hi516, h⟩ := cr_gd_s h
          refine jr_iald X.c (cr_l_iv ha5_) ((cr_row_iv ha5_) _) hi516 dL_flick_516 ?_
          refine jr_aload X.c dL_flick_517 1 rfl ?_
          refine jr_aload X.c dL_flick_519 3 rfl ?_
          obtain ⟨r521, hr521, h⟩ := cr_bd_s h
          refine jc_Si X.c (As := [.int (V_l463 a5_ ((5 : Int32) * x16_463).toNatClampNeg), .int (V_l463 a5_ (((5 : Int32) * x16_463) + (1 : Int32)).toNatClampNeg), .ref (w.1 a4_), .ref (w.1 a6_)]) (V1 := V_l463) 4 (m_L_rings l w V_l463 a4_ a6_ (V_l463 a5_ ((5 : Int32) * x16_463).toNatClampNeg) (V_l463 a5_ (((5 : Int32) * x16_463) + (1 : Int32)).toNatClampNeg) ha4_ ha6_ r521 hr521) ⟨rfl, rfl⟩ ml_L_16 st_L_rings in_L cd_L_rings hd_L_rings ⟨Nat.le_of_ble_eq_true rfl, Nat.le_of_ble_eq_true rfl⟩ ⟨Nat.le_of_ble_eq_true rfl, Nat.le_of_ble_eq_true rfl⟩ rfl (Nat.le_of_ble_eq_true rfl) rfl dL_flick_521 ?_
          refine jr_if_eq X.c 530 dL_flick_524 (by decide) (fun q524 => ?_) (fun q524 => ?_)
          · replace h := cr_if_t q524 h
            refine jr_aload X.c dL_flick_530 4 rfl ?_
            refine jr_iconst X.c (v := (0 : Int32)) dL_flick_532 (by decide) ?_
            refine jr_dup2 X.c dL_flick_533 rfl rfl ?_
            obtain ⟨hi534, h⟩ := cr_gd_s h
            refine jr_iald X.c (cr_l_iv ha7_) ((cr_row_iv ha7_) _) hi534 dL_flick_534 ?_
            refine jr_iconst X.c (v := (1 : Int32)) dL_flick_535 (by decide) ?_
            refine jr_iadd X.c dL_flick_536 ?_
            obtain ⟨hi537, h⟩ := cr_gd_s h
            obtain ⟨V537, eV537, h⟩ := cr_lt_s h
            refine jr_iast X.c (cr_l_iv ha7_) (cr_row_iv ha7_) hi537 dL_flick_537 eV537 ?_
            refine jr_aload X.c dL_flick_538 4 rfl ?_
            refine jr_iconst X.c (v := (1 : Int32)) dL_flick_540 (by decide) ?_
            refine jr_dup2 X.c dL_flick_541 rfl rfl ?_
            obtain ⟨hi542, h⟩ := cr_gd_s h
            refine jr_iald X.c (cr_l_iv ha7_) ((cr_row_iv ha7_) _) hi542 dL_flick_542 ?_
            refine jr_aload X.c dL_flick_543 2 rfl ?_
            refine jr_iconst X.c (v := (5 : Int32)) dL_flick_545 (by decide) ?_
            refine jr_iload X.c dL_flick_546 9 rfl ?_
            refine jr_imul X.c dL_flick_548 ?_
            refine jr_iconst X.c (v := (2 : Int32)) dL_flick_549 (by decide) ?_
            refine jr_iadd X.c dL_flick_550 ?_
            obtain ⟨hi551, h⟩ := cr_gd_s h
            refine jr_iald X.c (cr_l_iv ha5_) ((cr_row_iv ha5_) _) hi551 dL_flick_551 ?_
            refine jr_iadd X.c dL_flick_552 ?_
            obtain ⟨hi553, h⟩ := cr_gd_s h
            obtain ⟨V553, eV553, h⟩ := cr_lt_s h
            refine jr_iast X.c (cr_l_iv ha7_) (cr_row_iv ha7_) hi553 dL_flick_553 eV553 ?_
            refine jr_iload X.c dL_flick_554 8 rfl ?_
            refine jr_aload X.c dL_flick_556 5 rfl ?_
            refine jr_iload X.c dL_flick_558 9 rfl ?_
            obtain ⟨hi560, h⟩ := cr_gd_s h
            refine jr_iald X.c (cr_l_iv ha2) ((cr_row_iv ha2) _) hi560 dL_flick_560 ?_
            refine jr_ior X.c dL_flick_561 ?_
            obtain ⟨n562, en562, h⟩ := cr_lt_s h
            refine jr_top en562 ?_
            refine jr_istore X.c (lv2 := [(15, .int n562), (0, .int x0), (4, .ref (w.1 a4_)), (5, .ref (w.1 a5_)), (6, .ref (w.1 a6_)), (7, .ref (w.1 a7_)), (8, .ref (w.1 a2)), (9, .ref (w.1 a8)), (14, .int u14_134_411), (16, .int x16_463)]) dL_flick_562 (by decide) rfl ?_
            refine jr_aload X.c dL_flick_564 3 rfl ?_
            refine jr_iconst X.c (v := (5 : Int32)) dL_flick_566 (by decide) ?_
            refine jr_iload X.c dL_flick_567 9 rfl ?_
            refine jr_imul X.c dL_flick_569 ?_
            refine jr_iconst X.c (v := (4 : Int32)) dL_flick_570 (by decide) ?_
            refine jr_iadd X.c dL_flick_571 ?_
            refine jr_iload_n X.c dL_flick_572 rfl 1 rfl ?_
            obtain ⟨hi573, h⟩ := cr_gd_s h
            obtain ⟨V573, eV573, h⟩ := cr_lt_s h
            refine jr_iast X.c (cr_l_iv ha5_) (cr_row_iv ha5_) hi573 dL_flick_573 eV573 ?_
            refine jr_iinc X.c (v := (x16_463 + (1 : Int32))) (lv2 := [(16, .int (x16_463 + (1 : Int32))), (15, .int n562), (0, .int x0), (4, .ref (w.1 a4_)), (5, .ref (w.1 a5_)), (6, .ref (w.1 a6_)), (7, .ref (w.1 a7_)), (8, .ref (w.1 a2)), (9, .ref (w.1 a8)), (14, .int u14_134_411)]) dL_flick_574 9 rfl (by rfl) (by decide) rfl ?_
            refine jr_goto X.c 463 dL_flick_577 (by decide) ?_
            cases h
            refine jr_sub [2, 3, 4, 5, 6, 7, 8, 9, 1, 0] rfl ?_
            exact kl n562 (x16_463 + (1 : Int32)) V573 rfl
          · replace h := cr_if_f q524 h
            refine jr_goto X.c 574 dL_flick_527 (by decide) ?_
            refine jr_iinc X.c (v := (x16_463 + (1 : Int32))) (lv2 := [(16, .int (x16_463 + (1 : Int32))), (0, .int x0), (4, .ref (w.1 a4_)), (5, .ref (w.1 a5_)), (6, .ref (w.1 a6_)), (7, .ref (w.1 a7_)), (8, .ref (w.1 a2)), (9, .ref (w.1 a8)), (14, .int u14_134_411), (15, .int x15_463)]) dL_flick_574 9 rfl (by rfl) (by decide) rfl ?_
            refine jr_goto X.c 463 dL_flick_577 (by decide) ?_
            cases h
            refine jr_sub [1, 2, 3, 4, 5, 6, 7, 8, 9, 0] rfl ?_
            exact kl x15_463 (x16_463 + (1 : Int32)) V_l463 rfl
def f_L_flick_l611 (a4_ : Nat) (a6_ : Nat) (u15_463_580 : Int32) (x16_611 : Int32) (V_l611 : cr_Hp) : Option ((Int32 × cr_Hp) ⊕ cr_Hp) :=
  cr_gd (cr_ix (1 : Int32) 8) (if (V_l611 a4_ (1 : Int32).toNatClampNeg) ≤ x16_611 then (some (.inr V_l611)) else (if ((u15_463_580 >>> (x16_611 &&& 31)) &&& (1 : Int32)) = 0 then (some (.inl ((x16_611 + (1 : Int32)), V_l611))) else (cr_gd (cr_ix (((3 : Int32) * x16_611) + (2 : Int32)) 12) (if (V_l611 a6_ (((3 : Int32) * x16_611) + (2 : Int32)).toNatClampNeg) = (15 : Int32) then (some (.inl ((x16_611 + (1 : Int32)), V_l611))) else (cr_gd (cr_ix (((3 : Int32) * x16_611) + (2 : Int32)) 12) (cr_gd (cr_ix (((3 : Int32) * x16_611) + (2 : Int32)) 12) (cr_lt (cr_pt V_l611 a6_ (((3 : Int32) * x16_611) + (2 : Int32)).toNatClampNeg ((V_l611 a6_ (((3 : Int32) * x16_611) + (2 : Int32)).toNatClampNeg) + (1 : Int32))) (fun (V659 : cr_Hp) => cr_gd (cr_ix (6 : Int32) 8) (cr_gd (cr_ix (6 : Int32) 8) (cr_lt (cr_pt V659 a4_ (6 : Int32).toNatClampNeg ((V659 a4_ (6 : Int32).toNatClampNeg) + (1 : Int32))) (fun (V668 : cr_Hp) => some (.inl ((x16_611 + (1 : Int32)), V668)))))))))))))
set_option maxRecDepth 100000 in
set_option maxHeartbeats 4000000 in
theorem t_L_flick_l611 {p : Program} {l : Launch} {e : Env} {s : State} {m : MethodId} {args : Array Value} {below : List Frame} {meth : Method} {c : Code} {w : cr_Wd} {Q : State → Prop} (X : cr_Cx w RL (Cond.code yL_flick cL_flick 21 none) cL_flick 21 p s m args meth c) (a4_ : Nat) (a6_ : Nat) (u15_463_580 : Int32) (x16_611 : Int32) (V_l611 : cr_Hp) (ha4_ : cr_iv w 8 a4_) (ha6_ : cr_iv w 12 a6_) (x : (Int32 × cr_Hp) ⊕ cr_Hp) (h : f_L_flick_l611 a4_ a6_ u15_463_580 x16_611 V_l611 = some x) (kl : ∀ (x16_611 : Int32) (V_l611 : cr_Hp), x = .inl (x16_611, V_l611) → cr_J w 21 p l e rm_L_flick s m args below meth c 2 24 Q V_l611 611 [(4, .ref (w.1 a4_)), (6, .ref (w.1 a6_)), (15, .int u15_463_580), (16, .int x16_611)] []) (kr675 : ∀ (V_e611_675 : cr_Hp), x = .inr V_e611_675 → cr_J w 21 p l e rm_L_flick s m args below meth c 2 24 Q V_e611_675 675 [] []) : cr_J w 21 p l e rm_L_flick s m args below meth c 2 24 Q V_l611 611 [(4, .ref (w.1 a4_)), (6, .ref (w.1 a6_)), (15, .int u15_463_580), (16, .int x16_611)] [] := by
  unfold f_L_flick_l611 at h
  refine jr_iload X.c dL_flick_611 3 rfl ?_
  refine jr_aload X.c dL_flick_613 0 rfl ?_
  refine jr_iconst X.c (v := (1 : Int32)) dL_flick_615 (by decide) ?_
  obtain ⟨hi616, h⟩ := cr_gd_s h
  refine jr_iald X.c (cr_l_iv ha4_) ((cr_row_iv ha4_) _) hi616 dL_flick_616 ?_
  refine jr_icmp_ge X.c 675 dL_flick_617 (by decide) (fun q617 => ?_) (fun q617 => ?_)
  · replace h := cr_if_t q617 h
    cases h
    refine jr_sub [] rfl ?_
    exact kr675 V_l611 rfl
  · replace h := cr_if_f q617 h
    refine jr_iload X.c dL_flick_620 2 rfl ?_
    refine jr_iload X.c dL_flick_622 3 rfl ?_
    refine jr_ishr X.c dL_flick_624 ?_
    refine jr_iconst X.c (v := (1 : Int32)) dL_flick_625 (by decide) ?_
    refine jr_iand X.c dL_flick_626 ?_
    refine jr_if_eq X.c 669 dL_flick_627 (by decide) (fun q627 => ?_) (fun q627 => ?_)
    · replace h := cr_if_t q627 h
      refine jr_iinc X.c (v := (x16_611 + (1 : Int32))) (lv2 := [(16, .int (x16_611 + (1 : Int32))), (4, .ref (w.1 a4_)), (6, .ref (w.1 a6_)), (15, .int u15_463_580)]) dL_flick_669 3 rfl (by rfl) (by decide) rfl ?_
      refine jr_goto X.c 611 dL_flick_672 (by decide) ?_
      cases h
      refine jr_sub [1, 2, 3, 0] rfl ?_
      exact kl (x16_611 + (1 : Int32)) V_l611 rfl
    · replace h := cr_if_f q627 h
      refine jr_aload X.c dL_flick_630 1 rfl ?_
      refine jr_iconst X.c (v := (3 : Int32)) dL_flick_632 (by decide) ?_
      refine jr_iload X.c dL_flick_633 3 rfl ?_
      refine jr_imul X.c dL_flick_635 ?_
      refine jr_iconst X.c (v := (2 : Int32)) dL_flick_636 (by decide) ?_
      refine jr_iadd X.c dL_flick_637 ?_
      obtain ⟨hi638, h⟩ := cr_gd_s h
      refine jr_iald X.c (cr_l_iv ha6_) ((cr_row_iv ha6_) _) hi638 dL_flick_638 ?_
      refine jr_bipush X.c (v := (15 : Int32)) dL_flick_639 (by decide) ?_
      refine jr_icmp_ne X.c 647 dL_flick_641 (by decide) (fun q641 => ?_) (fun q641 => ?_)
      · replace h := cr_if_f q641 h
        refine jr_aload X.c dL_flick_647 1 rfl ?_
        refine jr_iconst X.c (v := (3 : Int32)) dL_flick_649 (by decide) ?_
        refine jr_iload X.c dL_flick_650 3 rfl ?_
        refine jr_imul X.c dL_flick_652 ?_
        refine jr_iconst X.c (v := (2 : Int32)) dL_flick_653 (by decide) ?_
        refine jr_iadd X.c dL_flick_654 ?_
        refine jr_dup2 X.c dL_flick_655 rfl rfl ?_
        obtain ⟨hi656, h⟩ := cr_gd_s h
        refine jr_iald X.c (cr_l_iv ha6_) ((cr_row_iv ha6_) _) hi656 dL_flick_656 ?_
        refine jr_iconst X.c (v := (1 : Int32)) dL_flick_657 (by decide) ?_
        refine jr_iadd X.c dL_flick_658 ?_
        obtain ⟨hi659, h⟩ := cr_gd_s h
        obtain ⟨V659, eV659, h⟩ := cr_lt_s h
        refine jr_iast X.c (cr_l_iv ha6_) (cr_row_iv ha6_) hi659 dL_flick_659 eV659 ?_
        refine jr_aload X.c dL_flick_660 0 rfl ?_
        refine jr_bipush X.c (v := (6 : Int32)) dL_flick_662 (by decide) ?_
        refine jr_dup2 X.c dL_flick_664 rfl rfl ?_
        obtain ⟨hi665, h⟩ := cr_gd_s h
        refine jr_iald X.c (cr_l_iv ha4_) ((cr_row_iv ha4_) _) hi665 dL_flick_665 ?_
        refine jr_iconst X.c (v := (1 : Int32)) dL_flick_666 (by decide) ?_
        refine jr_iadd X.c dL_flick_667 ?_
        obtain ⟨hi668, h⟩ := cr_gd_s h
        obtain ⟨V668, eV668, h⟩ := cr_lt_s h
        refine jr_iast X.c (cr_l_iv ha4_) (cr_row_iv ha4_) hi668 dL_flick_668 eV668 ?_
        refine jr_iinc X.c (v := (x16_611 + (1 : Int32))) (lv2 := [(16, .int (x16_611 + (1 : Int32))), (4, .ref (w.1 a4_)), (6, .ref (w.1 a6_)), (15, .int u15_463_580)]) dL_flick_669 3 rfl (by rfl) (by decide) rfl ?_
        refine jr_goto X.c 611 dL_flick_672 (by decide) ?_
        cases h
        refine jr_sub [1, 2, 3, 0] rfl ?_
        exact kl (x16_611 + (1 : Int32)) V668 rfl
      · replace h := cr_if_t q641 h
        refine jr_goto X.c 669 dL_flick_644 (by decide) ?_
        refine jr_iinc X.c (v := (x16_611 + (1 : Int32))) (lv2 := [(16, .int (x16_611 + (1 : Int32))), (4, .ref (w.1 a4_)), (6, .ref (w.1 a6_)), (15, .int u15_463_580)]) dL_flick_669 3 rfl (by rfl) (by decide) rfl ?_
        refine jr_goto X.c 611 dL_flick_672 (by decide) ?_
        cases h
        refine jr_sub [1, 2, 3, 0] rfl ?_
        exact kl (x16_611 + (1 : Int32)) V_l611 rfl
def f_L_flick_b411 (a4_ : Nat) (a5_ : Nat) (a6_ : Nat) (a7_ : Nat) (a2 : Nat) (a8 : Nat) (x0 : Int32) (u12_134_411 : Int32) (u14_134_411 : Int32) (V_e134_411 : cr_Hp) : Option (cr_Hp) :=
  cr_gd (cr_ix (0 : Int32) 5) (cr_lt (cr_pt V_e134_411 a7_ (0 : Int32).toNatClampNeg (0 : Int32)) (fun (V415 : cr_Hp) => cr_gd (cr_ix (1 : Int32) 5) (cr_lt (cr_pt V415 a7_ (1 : Int32).toNatClampNeg (0 : Int32)) (fun (V420 : cr_Hp) => cr_gd (cr_ix (2 : Int32) 5) (cr_lt (cr_pt V420 a7_ (2 : Int32).toNatClampNeg u14_134_411) (fun (V426 : cr_Hp) => cr_gd (cr_ix (3 : Int32) 5) (cr_lt (cr_pt V426 a7_ (3 : Int32).toNatClampNeg u12_134_411) (fun (V432 : cr_Hp) => cr_gd (cr_ix ((5 : Int32) * u12_134_411) 60) (cr_gd (cr_ix (((5 : Int32) * u12_134_411) + (1 : Int32)) 60) (cr_gd (cr_ix (4 : Int32) 5) (cr_lt (cr_pt V432 a7_ (4 : Int32).toNatClampNeg (((100 : Int32) * (V432 a5_ ((5 : Int32) * u12_134_411).toNatClampNeg)) + (V432 a5_ (((5 : Int32) * u12_134_411) + (1 : Int32)).toNatClampNeg))) (fun (V456 : cr_Hp) => cr_bd (cr_it (fun (q : Int32 × Int32 × cr_Hp) => f_L_flick_l463 a4_ a5_ a6_ a7_ a2 a8 x0 u14_134_411 q.1 q.2.1 q.2.2) cr_FU ((0 : Int32), (0 : Int32), V456)) (cr_u2 (fun (u15_463_580 : Int32) (V_e463_580 : cr_Hp) => cr_gd (cr_ix (3 : Int32) 8) (cr_gd (cr_ix (3 : Int32) 8) (cr_lt (cr_pt V_e463_580 a4_ (3 : Int32).toNatClampNeg ((V_e463_580 a4_ (3 : Int32).toNatClampNeg) + (1 : Int32))) (fun (V587 : cr_Hp) => cr_gd (cr_ix (4 : Int32) 8) (cr_gd (cr_ix (4 : Int32) 8) (cr_lt (cr_pt V587 a4_ (4 : Int32).toNatClampNeg ((V587 a4_ (4 : Int32).toNatClampNeg) + u14_134_411)) (fun (V596 : cr_Hp) => cr_gd (cr_ix (5 : Int32) 8) (cr_gd (cr_ix (0 : Int32) 5) (cr_gd (cr_ix (5 : Int32) 8) (cr_lt (cr_pt V596 a4_ (5 : Int32).toNatClampNeg ((V596 a4_ (5 : Int32).toNatClampNeg) + (V596 a7_ (0 : Int32).toNatClampNeg))) (fun (V607 : cr_Hp) => cr_bd (cr_it (fun (q : Int32 × cr_Hp) => f_L_flick_l611 a4_ a6_ u15_463_580 q.1 q.2) cr_FU ((0 : Int32), V607)) (fun (V_e611_675 : cr_Hp) => some V_e611_675)))))))))))))))))))))))))
set_option maxRecDepth 100000 in
set_option maxHeartbeats 4000000 in
theorem t_L_flick_b411 {p : Program} {l : Launch} {e : Env} {s : State} {m : MethodId} {args : Array Value} {below : List Frame} {meth : Method} {c : Code} {w : cr_Wd} (X : cr_Cx w RL (Cond.code yL_flick cL_flick 21 none) cL_flick 21 p s m args meth c) (a4_ : Nat) (a5_ : Nat) (a6_ : Nat) (a7_ : Nat) (a2 : Nat) (a8 : Nat) (x0 : Int32) (u12_134_411 : Int32) (u14_134_411 : Int32) (V_e134_411 : cr_Hp) (ha4_ : cr_iv w 8 a4_) (ha5_ : cr_iv w 60 a5_) (ha6_ : cr_iv w 12 a6_) (ha7_ : cr_iv w 5 a7_) (ha2 : cr_iv w 12 a2) (ha8 : cr_iv w 12 a8) (hr0 : meth.sig.returnType = none) (x : cr_Hp) (h : f_L_flick_b411 a4_ a5_ a6_ a7_ a2 a8 x0 u12_134_411 u14_134_411 V_e134_411 = some x) : cr_J w 21 p l e rm_L_flick s m args below meth c 2 24 (MQ below (cr_Qv w x) args s 2 24 (cr_A w)) V_e134_411 411 [(0, .int x0), (4, .ref (w.1 a4_)), (5, .ref (w.1 a5_)), (6, .ref (w.1 a6_)), (7, .ref (w.1 a7_)), (8, .ref (w.1 a2)), (9, .ref (w.1 a8)), (12, .int u12_134_411), (14, .int u14_134_411)] [] := by
  unfold f_L_flick_b411 at h
  refine jr_aload X.c dL_flick_411 4 rfl ?_
  refine jr_iconst X.c (v := (0 : Int32)) dL_flick_413 (by decide) ?_
  refine jr_iconst X.c (v := (0 : Int32)) dL_flick_414 (by decide) ?_
  obtain ⟨hi415, h⟩ := cr_gd_s h
  obtain ⟨V415, eV415, h⟩ := cr_lt_s h
  refine jr_iast X.c (cr_l_iv ha7_) (cr_row_iv ha7_) hi415 dL_flick_415 eV415 ?_
  refine jr_aload X.c dL_flick_416 4 rfl ?_
  refine jr_iconst X.c (v := (1 : Int32)) dL_flick_418 (by decide) ?_
  refine jr_iconst X.c (v := (0 : Int32)) dL_flick_419 (by decide) ?_
  obtain ⟨hi420, h⟩ := cr_gd_s h
  obtain ⟨V420, eV420, h⟩ := cr_lt_s h
  refine jr_iast X.c (cr_l_iv ha7_) (cr_row_iv ha7_) hi420 dL_flick_420 eV420 ?_
  refine jr_aload X.c dL_flick_421 4 rfl ?_
  refine jr_iconst X.c (v := (2 : Int32)) dL_flick_423 (by decide) ?_
  refine jr_iload X.c dL_flick_424 8 rfl ?_
  obtain ⟨hi426, h⟩ := cr_gd_s h
  obtain ⟨V426, eV426, h⟩ := cr_lt_s h
  refine jr_iast X.c (cr_l_iv ha7_) (cr_row_iv ha7_) hi426 dL_flick_426 eV426 ?_
  refine jr_aload X.c dL_flick_427 4 rfl ?_
  refine jr_iconst X.c (v := (3 : Int32)) dL_flick_429 (by decide) ?_
  refine jr_iload X.c dL_flick_430 7 rfl ?_
  obtain ⟨hi432, h⟩ := cr_gd_s h
  obtain ⟨V432, eV432, h⟩ := cr_lt_s h
  refine jr_iast X.c (cr_l_iv ha7_) (cr_row_iv ha7_) hi432 dL_flick_432 eV432 ?_
  refine jr_aload X.c dL_flick_433 4 rfl ?_
  refine jr_iconst X.c (v := (4 : Int32)) dL_flick_435 (by decide) ?_
  refine jr_bipush X.c (v := (100 : Int32)) dL_flick_436 (by decide) ?_
  refine jr_aload X.c dL_flick_438 2 rfl ?_
  refine jr_iconst X.c (v := (5 : Int32)) dL_flick_440 (by decide) ?_
  refine jr_iload X.c dL_flick_441 7 rfl ?_
  refine jr_imul X.c dL_flick_443 ?_
  obtain ⟨hi444, h⟩ := cr_gd_s h
  refine jr_iald X.c (cr_l_iv ha5_) ((cr_row_iv ha5_) _) hi444 dL_flick_444 ?_
  refine jr_imul X.c dL_flick_445 ?_
  refine jr_aload X.c dL_flick_446 2 rfl ?_
  refine jr_iconst X.c (v := (5 : Int32)) dL_flick_448 (by decide) ?_
  refine jr_iload X.c dL_flick_449 7 rfl ?_
  refine jr_imul X.c dL_flick_451 ?_
  refine jr_iconst X.c (v := (1 : Int32)) dL_flick_452 (by decide) ?_
  refine jr_iadd X.c dL_flick_453 ?_
  obtain ⟨hi454, h⟩ := cr_gd_s h
  refine jr_iald X.c (cr_l_iv ha5_) ((cr_row_iv ha5_) _) hi454 dL_flick_454 ?_
  refine jr_iadd X.c dL_flick_455 ?_
  obtain ⟨hi456, h⟩ := cr_gd_s h
  obtain ⟨V456, eV456, h⟩ := cr_lt_s h
  refine jr_iast X.c (cr_l_iv ha7_) (cr_row_iv ha7_) hi456 dL_flick_456 eV456 ?_
  refine jr_iconst X.c (v := (0 : Int32)) dL_flick_457 (by decide) ?_
  refine jr_istore X.c (lv2 := [(15, .int (0 : Int32)), (0, .int x0), (4, .ref (w.1 a4_)), (5, .ref (w.1 a5_)), (6, .ref (w.1 a6_)), (7, .ref (w.1 a7_)), (8, .ref (w.1 a2)), (9, .ref (w.1 a8)), (12, .int u12_134_411), (14, .int u14_134_411)]) dL_flick_458 (by decide) rfl ?_
  refine jr_iconst X.c (v := (0 : Int32)) dL_flick_460 (by decide) ?_
  refine jr_istore X.c (lv2 := [(16, .int (0 : Int32)), (15, .int (0 : Int32)), (0, .int x0), (4, .ref (w.1 a4_)), (5, .ref (w.1 a5_)), (6, .ref (w.1 a6_)), (7, .ref (w.1 a7_)), (8, .ref (w.1 a2)), (9, .ref (w.1 a8)), (12, .int u12_134_411), (14, .int u14_134_411)]) dL_flick_461 (by decide) rfl ?_
  obtain ⟨e463, he463, h⟩ := cr_bd_s h
  have kx580 : ∀ (u15_463_580 : Int32) (V_e463_580 : cr_Hp), e463 = (u15_463_580, V_e463_580) → cr_J w 21 p l e rm_L_flick s m args below meth c 2 24 (MQ below (cr_Qv w x) args s 2 24 (cr_A w)) V_e463_580 580 [(4, .ref (w.1 a4_)), (6, .ref (w.1 a6_)), (7, .ref (w.1 a7_)), (14, .int u14_134_411), (15, .int u15_463_580)] [] := by
    intro u15_463_580 V_e463_580 qx
    rw [qx] at h
    rw [cr_u2_e] at h
    refine jr_aload X.c dL_flick_580 0 rfl ?_
    refine jr_iconst X.c (v := (3 : Int32)) dL_flick_582 (by decide) ?_
    refine jr_dup2 X.c dL_flick_583 rfl rfl ?_
    obtain ⟨hi584, h⟩ := cr_gd_s h
    refine jr_iald X.c (cr_l_iv ha4_) ((cr_row_iv ha4_) _) hi584 dL_flick_584 ?_
    refine jr_iconst X.c (v := (1 : Int32)) dL_flick_585 (by decide) ?_
    refine jr_iadd X.c dL_flick_586 ?_
    obtain ⟨hi587, h⟩ := cr_gd_s h
    obtain ⟨V587, eV587, h⟩ := cr_lt_s h
    refine jr_iast X.c (cr_l_iv ha4_) (cr_row_iv ha4_) hi587 dL_flick_587 eV587 ?_
    refine jr_aload X.c dL_flick_588 0 rfl ?_
    refine jr_iconst X.c (v := (4 : Int32)) dL_flick_590 (by decide) ?_
    refine jr_dup2 X.c dL_flick_591 rfl rfl ?_
    obtain ⟨hi592, h⟩ := cr_gd_s h
    refine jr_iald X.c (cr_l_iv ha4_) ((cr_row_iv ha4_) _) hi592 dL_flick_592 ?_
    refine jr_iload X.c dL_flick_593 3 rfl ?_
    refine jr_iadd X.c dL_flick_595 ?_
    obtain ⟨hi596, h⟩ := cr_gd_s h
    obtain ⟨V596, eV596, h⟩ := cr_lt_s h
    refine jr_iast X.c (cr_l_iv ha4_) (cr_row_iv ha4_) hi596 dL_flick_596 eV596 ?_
    refine jr_aload X.c dL_flick_597 0 rfl ?_
    refine jr_iconst X.c (v := (5 : Int32)) dL_flick_599 (by decide) ?_
    refine jr_dup2 X.c dL_flick_600 rfl rfl ?_
    obtain ⟨hi601, h⟩ := cr_gd_s h
    refine jr_iald X.c (cr_l_iv ha4_) ((cr_row_iv ha4_) _) hi601 dL_flick_601 ?_
    refine jr_aload X.c dL_flick_602 2 rfl ?_
    refine jr_iconst X.c (v := (0 : Int32)) dL_flick_604 (by decide) ?_
    obtain ⟨hi605, h⟩ := cr_gd_s h
    refine jr_iald X.c (cr_l_iv ha7_) ((cr_row_iv ha7_) _) hi605 dL_flick_605 ?_
    refine jr_iadd X.c dL_flick_606 ?_
    obtain ⟨hi607, h⟩ := cr_gd_s h
    obtain ⟨V607, eV607, h⟩ := cr_lt_s h
    refine jr_iast X.c (cr_l_iv ha4_) (cr_row_iv ha4_) hi607 dL_flick_607 eV607 ?_
    refine jr_iconst X.c (v := (0 : Int32)) dL_flick_608 (by decide) ?_
    refine jr_istore X.c (lv2 := [(16, .int (0 : Int32)), (4, .ref (w.1 a4_)), (6, .ref (w.1 a6_)), (7, .ref (w.1 a7_)), (14, .int u14_134_411), (15, .int u15_463_580)]) dL_flick_609 (by decide) rfl ?_
    obtain ⟨e611, he611, h⟩ := cr_bd_s h
    have kx675 : ∀ (V_e611_675 : cr_Hp), e611 = V_e611_675 → cr_J w 21 p l e rm_L_flick s m args below meth c 2 24 (MQ below (cr_Qv w x) args s 2 24 (cr_A w)) V_e611_675 675 [] [] := by
      intro V_e611_675 qx
      rw [qx] at h
      cases h
      exact jr_vret X.c hr0 dL_flick_675
    refine jr_sub [1, 2, 5, 0] rfl ?_
    refine cr_it_W (f := (fun (q : Int32 × cr_Hp) => f_L_flick_l611 a4_ a6_ u15_463_580 q.1 q.2)) (P := fun (q : Int32 × cr_Hp) => cr_J w 21 p l e rm_L_flick s m args below meth c 2 24 (MQ below (cr_Qv w x) args s 2 24 (cr_A w)) q.2 611 [(4, .ref (w.1 a4_)), (6, .ref (w.1 a6_)), (15, .int u15_463_580), (16, .int q.1)] []) (K := fun z => z = e611) (fun q x hx kl kr => ?_) cr_FU ((0 : Int32), V607) e611 he611 rfl
    obtain ⟨x16_611, V_l611⟩ := q
    exact t_L_flick_l611 X a4_ a6_ u15_463_580 x16_611 V_l611 ha4_ ha6_ x hx (fun x16_611 V_l611 ez => kl _ ez) (fun V_e611_675 ez => kx675 V_e611_675 ((kr _ ez).symm))
  refine jr_sub [2, 3, 4, 5, 6, 7, 8, 10, 1, 0] rfl ?_
  refine cr_it_W (f := (fun (q : Int32 × Int32 × cr_Hp) => f_L_flick_l463 a4_ a5_ a6_ a7_ a2 a8 x0 u14_134_411 q.1 q.2.1 q.2.2)) (P := fun (q : Int32 × Int32 × cr_Hp) => cr_J w 21 p l e rm_L_flick s m args below meth c 2 24 (MQ below (cr_Qv w x) args s 2 24 (cr_A w)) q.2.2 463 [(0, .int x0), (4, .ref (w.1 a4_)), (5, .ref (w.1 a5_)), (6, .ref (w.1 a6_)), (7, .ref (w.1 a7_)), (8, .ref (w.1 a2)), (9, .ref (w.1 a8)), (14, .int u14_134_411), (15, .int q.1), (16, .int q.2.1)] []) (K := fun z => z = e463) (fun q x hx kl kr => ?_) cr_FU ((0 : Int32), (0 : Int32), V456) e463 he463 rfl
  obtain ⟨x15_463, x16_463, V_l463⟩ := q
  exact t_L_flick_l463 X a4_ a5_ a6_ a7_ a2 a8 x0 u14_134_411 x15_463 x16_463 V_l463 ha4_ ha5_ ha6_ ha7_ ha2 ha8 x hx (fun x15_463 x16_463 V_l463 ez => kl _ ez) (fun u15_463_580 V_e463_580 ez => kx580 u15_463_580 V_e463_580 ((kr _ ez).symm))
def f_L_flick_b123 (a4_ : Nat) (a5_ : Nat) (a6_ : Nat) (a7_ : Nat) (a2 : Nat) (a8 : Nat) (x0 : Int32) (x1 : Int32) (x3 : Int32) (z0_94 : Int32) (z0_123 : Int32) (V_e15_74 : cr_Hp) : Option (cr_Hp) :=
  cr_bd (cr_it (fun (q : Int32 × Int32 × Int32 × Int32 × Int32 × cr_Hp) => f_L_flick_l134 a4_ a5_ a6_ a7_ a2 a8 x0 q.1 q.2.1 q.2.2.1 q.2.2.2.1 q.2.2.2.2.1 q.2.2.2.2.2) cr_FU (z0_94, z0_123, x1, x3, (0 : Int32), V_e15_74)) (cr_u3 (fun (u12_134_411 : Int32) (u14_134_411 : Int32) (V_e134_411 : cr_Hp) => f_L_flick_b411 a4_ a5_ a6_ a7_ a2 a8 x0 u12_134_411 u14_134_411 V_e134_411))
set_option maxRecDepth 100000 in
set_option maxHeartbeats 4000000 in
theorem t_L_flick_b123 {p : Program} {l : Launch} {e : Env} {s : State} {m : MethodId} {args : Array Value} {below : List Frame} {meth : Method} {c : Code} {w : cr_Wd} (X : cr_Cx w RL (Cond.code yL_flick cL_flick 21 none) cL_flick 21 p s m args meth c) (a4_ : Nat) (a5_ : Nat) (a6_ : Nat) (a7_ : Nat) (a2 : Nat) (a8 : Nat) (x0 : Int32) (x1 : Int32) (x3 : Int32) (z0_94 : Int32) (z0_123 : Int32) (V_e15_74 : cr_Hp) (ha4_ : cr_iv w 8 a4_) (ha5_ : cr_iv w 60 a5_) (ha6_ : cr_iv w 12 a6_) (ha7_ : cr_iv w 5 a7_) (ha2 : cr_iv w 12 a2) (ha8 : cr_iv w 12 a8) (hr0 : meth.sig.returnType = none) (x : cr_Hp) (h : f_L_flick_b123 a4_ a5_ a6_ a7_ a2 a8 x0 x1 x3 z0_94 z0_123 V_e15_74 = some x) : cr_J w 21 p l e rm_L_flick s m args below meth c 2 24 (MQ below (cr_Qv w x) args s 2 24 (cr_A w)) V_e15_74 123 [(0, .int x0), (1, .int x1), (3, .int x3), (4, .ref (w.1 a4_)), (5, .ref (w.1 a5_)), (6, .ref (w.1 a6_)), (7, .ref (w.1 a7_)), (8, .ref (w.1 a2)), (9, .ref (w.1 a8)), (10, .int z0_94)] [.int z0_123] := by
  unfold f_L_flick_b123 at h
  refine jr_istore X.c (lv2 := [(11, .int z0_123), (0, .int x0), (1, .int x1), (3, .int x3), (4, .ref (w.1 a4_)), (5, .ref (w.1 a5_)), (6, .ref (w.1 a6_)), (7, .ref (w.1 a7_)), (8, .ref (w.1 a2)), (9, .ref (w.1 a8)), (10, .int z0_94)]) dL_flick_123 (by decide) rfl ?_
  refine jr_iload_n X.c dL_flick_125 rfl 2 rfl ?_
  refine jr_istore X.c (lv2 := [(12, .int x1), (11, .int z0_123), (0, .int x0), (1, .int x1), (3, .int x3), (4, .ref (w.1 a4_)), (5, .ref (w.1 a5_)), (6, .ref (w.1 a6_)), (7, .ref (w.1 a7_)), (8, .ref (w.1 a2)), (9, .ref (w.1 a8)), (10, .int z0_94)]) dL_flick_126 (by decide) rfl ?_
  refine jr_iload_n X.c dL_flick_128 rfl 4 rfl ?_
  refine jr_istore X.c (lv2 := [(13, .int x3), (12, .int x1), (11, .int z0_123), (0, .int x0), (1, .int x1), (3, .int x3), (4, .ref (w.1 a4_)), (5, .ref (w.1 a5_)), (6, .ref (w.1 a6_)), (7, .ref (w.1 a7_)), (8, .ref (w.1 a2)), (9, .ref (w.1 a8)), (10, .int z0_94)]) dL_flick_129 (by decide) rfl ?_
  refine jr_iconst X.c (v := (0 : Int32)) dL_flick_131 (by decide) ?_
  refine jr_istore X.c (lv2 := [(14, .int (0 : Int32)), (13, .int x3), (12, .int x1), (11, .int z0_123), (0, .int x0), (1, .int x1), (3, .int x3), (4, .ref (w.1 a4_)), (5, .ref (w.1 a5_)), (6, .ref (w.1 a6_)), (7, .ref (w.1 a7_)), (8, .ref (w.1 a2)), (9, .ref (w.1 a8)), (10, .int z0_94)]) dL_flick_132 (by decide) rfl ?_
  obtain ⟨e134, he134, h⟩ := cr_bd_s h
  have kx411 : ∀ (u12_134_411 : Int32) (u14_134_411 : Int32) (V_e134_411 : cr_Hp), e134 = (u12_134_411, u14_134_411, V_e134_411) → cr_J w 21 p l e rm_L_flick s m args below meth c 2 24 (MQ below (cr_Qv w x) args s 2 24 (cr_A w)) V_e134_411 411 [(0, .int x0), (4, .ref (w.1 a4_)), (5, .ref (w.1 a5_)), (6, .ref (w.1 a6_)), (7, .ref (w.1 a7_)), (8, .ref (w.1 a2)), (9, .ref (w.1 a8)), (12, .int u12_134_411), (14, .int u14_134_411)] [] := by
    intro u12_134_411 u14_134_411 V_e134_411 qx
    rw [qx] at h
    rw [cr_u3_e] at h
    refine jr_sub [0, 1, 2, 3, 4, 5, 6, 7, 8] rfl ?_
    exact t_L_flick_b411 X a4_ a5_ a6_ a7_ a2 a8 x0 u12_134_411 u14_134_411 V_e134_411 ha4_ ha5_ ha6_ ha7_ ha2 ha8 hr0 x  h
  refine jr_sub [4, 7, 8, 9, 10, 11, 12, 13, 3, 2, 1, 0] rfl ?_
  refine cr_it_W (f := (fun (q : Int32 × Int32 × Int32 × Int32 × Int32 × cr_Hp) => f_L_flick_l134 a4_ a5_ a6_ a7_ a2 a8 x0 q.1 q.2.1 q.2.2.1 q.2.2.2.1 q.2.2.2.2.1 q.2.2.2.2.2)) (P := fun (q : Int32 × Int32 × Int32 × Int32 × Int32 × cr_Hp) => cr_J w 21 p l e rm_L_flick s m args below meth c 2 24 (MQ below (cr_Qv w x) args s 2 24 (cr_A w)) q.2.2.2.2.2 134 [(0, .int x0), (4, .ref (w.1 a4_)), (5, .ref (w.1 a5_)), (6, .ref (w.1 a6_)), (7, .ref (w.1 a7_)), (8, .ref (w.1 a2)), (9, .ref (w.1 a8)), (10, .int q.1), (11, .int q.2.1), (12, .int q.2.2.1), (13, .int q.2.2.2.1), (14, .int q.2.2.2.2.1)] []) (K := fun z => z = e134) (fun q x hx kl kr => ?_) cr_FU (z0_94, z0_123, x1, x3, (0 : Int32), V_e15_74) e134 he134 rfl
  obtain ⟨x10_134, x11_134, x12_134, x13_134, x14_134, V_l134⟩ := q
  exact t_L_flick_l134 X a4_ a5_ a6_ a7_ a2 a8 x0 x10_134 x11_134 x12_134 x13_134 x14_134 V_l134 ha4_ ha5_ ha6_ ha7_ ha2 ha8 x hx (fun x10_134 x11_134 x12_134 x13_134 x14_134 V_l134 ez => kl _ ez) (fun u12_134_411 u14_134_411 V_e134_411 ez => kx411 u12_134_411 u14_134_411 V_e134_411 ((kr _ ez).symm))
def f_L_flick_b122 (a4_ : Nat) (a5_ : Nat) (a6_ : Nat) (a7_ : Nat) (a2 : Nat) (a8 : Nat) (x0 : Int32) (x1 : Int32) (x3 : Int32) (z0_94 : Int32) (V_e15_74 : cr_Hp) : Option (cr_Hp) :=
  f_L_flick_b123 a4_ a5_ a6_ a7_ a2 a8 x0 x1 x3 z0_94 (-1 : Int32) V_e15_74
set_option maxRecDepth 100000 in
set_option maxHeartbeats 4000000 in
theorem t_L_flick_b122 {p : Program} {l : Launch} {e : Env} {s : State} {m : MethodId} {args : Array Value} {below : List Frame} {meth : Method} {c : Code} {w : cr_Wd} (X : cr_Cx w RL (Cond.code yL_flick cL_flick 21 none) cL_flick 21 p s m args meth c) (a4_ : Nat) (a5_ : Nat) (a6_ : Nat) (a7_ : Nat) (a2 : Nat) (a8 : Nat) (x0 : Int32) (x1 : Int32) (x3 : Int32) (z0_94 : Int32) (V_e15_74 : cr_Hp) (ha4_ : cr_iv w 8 a4_) (ha5_ : cr_iv w 60 a5_) (ha6_ : cr_iv w 12 a6_) (ha7_ : cr_iv w 5 a7_) (ha2 : cr_iv w 12 a2) (ha8 : cr_iv w 12 a8) (hr0 : meth.sig.returnType = none) (x : cr_Hp) (h : f_L_flick_b122 a4_ a5_ a6_ a7_ a2 a8 x0 x1 x3 z0_94 V_e15_74 = some x) : cr_J w 21 p l e rm_L_flick s m args below meth c 2 24 (MQ below (cr_Qv w x) args s 2 24 (cr_A w)) V_e15_74 122 [(0, .int x0), (1, .int x1), (3, .int x3), (4, .ref (w.1 a4_)), (5, .ref (w.1 a5_)), (6, .ref (w.1 a6_)), (7, .ref (w.1 a7_)), (8, .ref (w.1 a2)), (9, .ref (w.1 a8)), (10, .int z0_94)] [] := by
  unfold f_L_flick_b122 at h
  refine jr_iconst X.c (v := (-1 : Int32)) dL_flick_122 (by decide) ?_
  refine jr_sub [0, 1, 2, 3, 4, 5, 6, 7, 8, 9] rfl ?_
  exact t_L_flick_b123 X a4_ a5_ a6_ a7_ a2 a8 x0 x1 x3 z0_94 (-1 : Int32) V_e15_74 ha4_ ha5_ ha6_ ha7_ ha2 ha8 hr0 x  h
def f_L_flick_b94 (a4_ : Nat) (a5_ : Nat) (a6_ : Nat) (a7_ : Nat) (a2 : Nat) (a8 : Nat) (x0 : Int32) (x1 : Int32) (x2 : Int32) (x3 : Int32) (z0_94 : Int32) (V_e15_74 : cr_Hp) : Option (cr_Hp) :=
  if (x2 - x2 / (4 : Int32) * (4 : Int32)) = (2 : Int32) then (f_L_flick_b123 a4_ a5_ a6_ a7_ a2 a8 x0 x1 x3 z0_94 (0 : Int32) V_e15_74) else (if x2 ≤ (2 : Int32) then (f_L_flick_b122 a4_ a5_ a6_ a7_ a2 a8 x0 x1 x3 z0_94 V_e15_74) else (if (6 : Int32) ≤ x2 then (f_L_flick_b122 a4_ a5_ a6_ a7_ a2 a8 x0 x1 x3 z0_94 V_e15_74) else (f_L_flick_b123 a4_ a5_ a6_ a7_ a2 a8 x0 x1 x3 z0_94 (1 : Int32) V_e15_74)))
set_option maxRecDepth 100000 in
set_option maxHeartbeats 4000000 in
theorem t_L_flick_b94 {p : Program} {l : Launch} {e : Env} {s : State} {m : MethodId} {args : Array Value} {below : List Frame} {meth : Method} {c : Code} {w : cr_Wd} (X : cr_Cx w RL (Cond.code yL_flick cL_flick 21 none) cL_flick 21 p s m args meth c) (a4_ : Nat) (a5_ : Nat) (a6_ : Nat) (a7_ : Nat) (a2 : Nat) (a8 : Nat) (x0 : Int32) (x1 : Int32) (x2 : Int32) (x3 : Int32) (z0_94 : Int32) (V_e15_74 : cr_Hp) (ha4_ : cr_iv w 8 a4_) (ha5_ : cr_iv w 60 a5_) (ha6_ : cr_iv w 12 a6_) (ha7_ : cr_iv w 5 a7_) (ha2 : cr_iv w 12 a2) (ha8 : cr_iv w 12 a8) (hr0 : meth.sig.returnType = none) (x : cr_Hp) (h : f_L_flick_b94 a4_ a5_ a6_ a7_ a2 a8 x0 x1 x2 x3 z0_94 V_e15_74 = some x) : cr_J w 21 p l e rm_L_flick s m args below meth c 2 24 (MQ below (cr_Qv w x) args s 2 24 (cr_A w)) V_e15_74 94 [(0, .int x0), (1, .int x1), (2, .int x2), (3, .int x3), (4, .ref (w.1 a4_)), (5, .ref (w.1 a5_)), (6, .ref (w.1 a6_)), (7, .ref (w.1 a7_)), (8, .ref (w.1 a2)), (9, .ref (w.1 a8))] [.int z0_94] := by
  unfold f_L_flick_b94 at h
  refine jr_istore X.c (lv2 := [(10, .int z0_94), (0, .int x0), (1, .int x1), (2, .int x2), (3, .int x3), (4, .ref (w.1 a4_)), (5, .ref (w.1 a5_)), (6, .ref (w.1 a6_)), (7, .ref (w.1 a7_)), (8, .ref (w.1 a2)), (9, .ref (w.1 a8))]) dL_flick_94 (by decide) rfl ?_
  refine jr_iload_n X.c dL_flick_96 rfl 3 rfl ?_
  refine jr_iconst X.c (v := (4 : Int32)) dL_flick_97 (by decide) ?_
  refine jr_irem X.c dL_flick_98 (by decide) ?_
  refine jr_iconst X.c (v := (2 : Int32)) dL_flick_99 (by decide) ?_
  refine jr_icmp_ne X.c 107 dL_flick_100 (by decide) (fun q100 => ?_) (fun q100 => ?_)
  · replace h := cr_if_f q100 h
    refine jr_iload_n X.c dL_flick_107 rfl 3 rfl ?_
    refine jr_iconst X.c (v := (2 : Int32)) dL_flick_108 (by decide) ?_
    refine jr_icmp_le X.c 122 dL_flick_109 (by decide) (fun q109 => ?_) (fun q109 => ?_)
    · replace h := cr_if_t q109 h
      refine jr_sub [1, 2, 4, 5, 6, 7, 8, 9, 10, 0] rfl ?_
      exact t_L_flick_b122 X a4_ a5_ a6_ a7_ a2 a8 x0 x1 x3 z0_94 V_e15_74 ha4_ ha5_ ha6_ ha7_ ha2 ha8 hr0 x  h
    · replace h := cr_if_f q109 h
      refine jr_iload_n X.c dL_flick_112 rfl 3 rfl ?_
      refine jr_bipush X.c (v := (6 : Int32)) dL_flick_113 (by decide) ?_
      refine jr_icmp_ge X.c 122 dL_flick_115 (by decide) (fun q115 => ?_) (fun q115 => ?_)
      · replace h := cr_if_t q115 h
        refine jr_sub [1, 2, 4, 5, 6, 7, 8, 9, 10, 0] rfl ?_
        exact t_L_flick_b122 X a4_ a5_ a6_ a7_ a2 a8 x0 x1 x3 z0_94 V_e15_74 ha4_ ha5_ ha6_ ha7_ ha2 ha8 hr0 x  h
      · replace h := cr_if_f q115 h
        refine jr_iconst X.c (v := (1 : Int32)) dL_flick_118 (by decide) ?_
        refine jr_goto X.c 123 dL_flick_119 (by decide) ?_
        refine jr_sub [1, 2, 4, 5, 6, 7, 8, 9, 10, 0] rfl ?_
        exact t_L_flick_b123 X a4_ a5_ a6_ a7_ a2 a8 x0 x1 x3 z0_94 (1 : Int32) V_e15_74 ha4_ ha5_ ha6_ ha7_ ha2 ha8 hr0 x  h
  · replace h := cr_if_t q100 h
    refine jr_iconst X.c (v := (0 : Int32)) dL_flick_103 (by decide) ?_
    refine jr_goto X.c 123 dL_flick_104 (by decide) ?_
    refine jr_sub [1, 2, 4, 5, 6, 7, 8, 9, 10, 0] rfl ?_
    exact t_L_flick_b123 X a4_ a5_ a6_ a7_ a2 a8 x0 x1 x3 z0_94 (0 : Int32) V_e15_74 ha4_ ha5_ ha6_ ha7_ ha2 ha8 hr0 x  h
def f_L_flick (nn : Nat) (a4_ : Nat) (a5_ : Nat) (a6_ : Nat) (a7_ : Nat) (x0 : Int32) (x1 : Int32) (x2 : Int32) (x3 : Int32) (V : cr_Hp) : Option (cr_Hp) :=
  cr_lt nn (fun (a2 : Nat) => cr_lt (cr_zr V a2) (fun (V2 : cr_Hp) => cr_lt (nn + 1) (fun (a8 : Nat) => cr_lt (cr_zr V2 a8) (fun (V8 : cr_Hp) => cr_bd (cr_it (fun (q : Int32 × cr_Hp) => f_L_flick_l15 a4_ a5_ a6_ a7_ a2 a8 x0 x1 x2 x3 q.1 q.2) cr_FU ((0 : Int32), V8)) (fun (V_e15_74 : cr_Hp) => if (x2 - x2 / (4 : Int32) * (4 : Int32)) = 0 then (f_L_flick_b94 a4_ a5_ a6_ a7_ a2 a8 x0 x1 x2 x3 (0 : Int32) V_e15_74) else (if (4 : Int32) ≤ x2 then (f_L_flick_b94 a4_ a5_ a6_ a7_ a2 a8 x0 x1 x2 x3 (-1 : Int32) V_e15_74) else (f_L_flick_b94 a4_ a5_ a6_ a7_ a2 a8 x0 x1 x2 x3 (1 : Int32) V_e15_74)))))))
set_option maxRecDepth 100000 in
set_option maxHeartbeats 4000000 in
theorem t_L_flick {p : Program} {l : Launch} {e : Env} {s : State} {m : MethodId} {args : Array Value} {below : List Frame} {meth : Method} {c : Code} {w : cr_Wd} (X : cr_Cx w RL (Cond.code yL_flick cL_flick 21 none) cL_flick 21 p s m args meth c) (nn : Nat) (a4_ : Nat) (a5_ : Nat) (a6_ : Nat) (a7_ : Nat) (x0 : Int32) (x1 : Int32) (x2 : Int32) (x3 : Int32) (V : cr_Hp) (hnn : cr_zn w = nn) (ha4_ : cr_iv w 8 a4_) (ha5_ : cr_iv w 60 a5_) (ha6_ : cr_iv w 12 a6_) (ha7_ : cr_iv w 5 a7_) (hr0 : meth.sig.returnType = none) (x : cr_Hp) (h : f_L_flick nn a4_ a5_ a6_ a7_ x0 x1 x2 x3 V = some x) : cr_J w 21 p l e rm_L_flick s m args below meth c 0 0 (MQ below (cr_Qv w x) args s 2 24 (cr_A w)) V 0 [(0, .int x0), (1, .int x1), (2, .int x2), (3, .int x3), (4, .ref (w.1 a4_)), (5, .ref (w.1 a5_)), (6, .ref (w.1 a6_)), (7, .ref (w.1 a7_))] [] := by
  unfold f_L_flick at h
  refine jr_bipush X.c (v := (12 : Int32)) dL_flick_0 (by decide) ?_
  obtain ⟨a2, ea2, h⟩ := cr_lt_s h
  obtain ⟨V2, eV2, h⟩ := cr_lt_s h
  refine jr_newa X (Qf := (fun w => cr_Qv w x)) (fun w2 hw2 a s o t => hw2.v) (L := (fun f => [(0, .int x0), (1, .int x1), (2, .int x2), (3, .int x3), (4, .ref (f a4_)), (5, .ref (f a5_)), (6, .ref (f a6_)), (7, .ref (f a7_))])) (N := 12) ac_int (by decide) (by decide) (by decide) (Nat.le_of_ble_eq_true rfl) (Nat.le_of_ble_eq_true rfl) (ea2.trans hnn.symm) eV2 (fun f g2 hfg => by simp only [hfg a4_ ha4_.2.1, hfg a5_ ha5_.2.1, hfg a6_ ha6_.2.1, hfg a7_ ha7_.2.1]) dL_flick_2 (fun w X hn2 hk2 ha2 => ?_)
  replace hnn : cr_zn w = nn + 1 := by omega
  replace ha4_ := hk2 _ _ ha4_
  replace ha5_ := hk2 _ _ ha5_
  replace ha6_ := hk2 _ _ ha6_
  replace ha7_ := hk2 _ _ ha7_
  refine jr_astore X.c (lv2 := [(8, .ref (w.1 a2)), (0, .int x0), (1, .int x1), (2, .int x2), (3, .int x3), (4, .ref (w.1 a4_)), (5, .ref (w.1 a5_)), (6, .ref (w.1 a6_)), (7, .ref (w.1 a7_))]) dL_flick_4 (by decide) rfl ?_
  refine jr_bipush X.c (v := (12 : Int32)) dL_flick_6 (by decide) ?_
  obtain ⟨a8, ea8, h⟩ := cr_lt_s h
  obtain ⟨V8, eV8, h⟩ := cr_lt_s h
  refine jr_newa X (Qf := (fun w => cr_Qv w x)) (fun w2 hw2 a s o t => hw2.v) (L := (fun f => [(8, .ref (f a2)), (0, .int x0), (1, .int x1), (2, .int x2), (3, .int x3), (4, .ref (f a4_)), (5, .ref (f a5_)), (6, .ref (f a6_)), (7, .ref (f a7_))])) (N := 12) ac_int (by decide) (by decide) (by decide) (Nat.le_of_ble_eq_true rfl) (Nat.le_of_ble_eq_true rfl) (ea8.trans hnn.symm) eV8 (fun f g2 hfg => by simp only [hfg a2 ha2.2.1, hfg a4_ ha4_.2.1, hfg a5_ ha5_.2.1, hfg a6_ ha6_.2.1, hfg a7_ ha7_.2.1]) dL_flick_8 (fun w X hn2 hk2 ha8 => ?_)
  replace hnn : cr_zn w = nn + 2 := by omega
  replace ha2 := hk2 _ _ ha2
  replace ha4_ := hk2 _ _ ha4_
  replace ha5_ := hk2 _ _ ha5_
  replace ha6_ := hk2 _ _ ha6_
  replace ha7_ := hk2 _ _ ha7_
  refine jr_astore X.c (lv2 := [(9, .ref (w.1 a8)), (8, .ref (w.1 a2)), (0, .int x0), (1, .int x1), (2, .int x2), (3, .int x3), (4, .ref (w.1 a4_)), (5, .ref (w.1 a5_)), (6, .ref (w.1 a6_)), (7, .ref (w.1 a7_))]) dL_flick_10 (by decide) rfl ?_
  refine jr_iconst X.c (v := (0 : Int32)) dL_flick_12 (by decide) ?_
  refine jr_istore X.c (lv2 := [(10, .int (0 : Int32)), (9, .ref (w.1 a8)), (8, .ref (w.1 a2)), (0, .int x0), (1, .int x1), (2, .int x2), (3, .int x3), (4, .ref (w.1 a4_)), (5, .ref (w.1 a5_)), (6, .ref (w.1 a6_)), (7, .ref (w.1 a7_))]) dL_flick_13 (by decide) rfl ?_
  obtain ⟨e15, he15, h⟩ := cr_bd_s h
  have kx74 : ∀ (V_e15_74 : cr_Hp), e15 = V_e15_74 → cr_J w 21 p l e rm_L_flick s m args below meth c 2 24 (MQ below (cr_Qv w x) args s 2 24 (cr_A w)) V_e15_74 74 [(0, .int x0), (1, .int x1), (2, .int x2), (3, .int x3), (4, .ref (w.1 a4_)), (5, .ref (w.1 a5_)), (6, .ref (w.1 a6_)), (7, .ref (w.1 a7_)), (8, .ref (w.1 a2)), (9, .ref (w.1 a8))] [] := by
    intro V_e15_74 qx
    rw [qx] at h
    refine jr_iload_n X.c dL_flick_74 rfl 2 rfl ?_
    refine jr_iconst X.c (v := (4 : Int32)) dL_flick_75 (by decide) ?_
    refine jr_irem X.c dL_flick_76 (by decide) ?_
    refine jr_if_ne X.c 84 dL_flick_77 (by decide) (fun q77 => ?_) (fun q77 => ?_)
    · replace h := cr_if_f q77 h
      refine jr_iload_n X.c dL_flick_84 rfl 2 rfl ?_
      refine jr_iconst X.c (v := (4 : Int32)) dL_flick_85 (by decide) ?_
      refine jr_icmp_ge X.c 93 dL_flick_86 (by decide) (fun q86 => ?_) (fun q86 => ?_)
      · replace h := cr_if_t q86 h
        refine jr_iconst X.c (v := (-1 : Int32)) dL_flick_93 (by decide) ?_
        refine jr_sub [0, 1, 2, 3, 4, 5, 6, 7, 8, 9] rfl ?_
        exact t_L_flick_b94 X a4_ a5_ a6_ a7_ a2 a8 x0 x1 x2 x3 (-1 : Int32) V_e15_74 ha4_ ha5_ ha6_ ha7_ ha2 ha8 hr0 x  h
      · replace h := cr_if_f q86 h
        refine jr_iconst X.c (v := (1 : Int32)) dL_flick_89 (by decide) ?_
        refine jr_goto X.c 94 dL_flick_90 (by decide) ?_
        refine jr_sub [0, 1, 2, 3, 4, 5, 6, 7, 8, 9] rfl ?_
        exact t_L_flick_b94 X a4_ a5_ a6_ a7_ a2 a8 x0 x1 x2 x3 (1 : Int32) V_e15_74 ha4_ ha5_ ha6_ ha7_ ha2 ha8 hr0 x  h
    · replace h := cr_if_t q77 h
      refine jr_iconst X.c (v := (0 : Int32)) dL_flick_80 (by decide) ?_
      refine jr_goto X.c 94 dL_flick_81 (by decide) ?_
      refine jr_sub [0, 1, 2, 3, 4, 5, 6, 7, 8, 9] rfl ?_
      exact t_L_flick_b94 X a4_ a5_ a6_ a7_ a2 a8 x0 x1 x2 x3 (0 : Int32) V_e15_74 ha4_ ha5_ ha6_ ha7_ ha2 ha8 hr0 x  h
  refine jr_sub [3, 4, 5, 6, 7, 8, 9, 10, 2, 1, 0] rfl ?_
  refine cr_it_W (f := (fun (q : Int32 × cr_Hp) => f_L_flick_l15 a4_ a5_ a6_ a7_ a2 a8 x0 x1 x2 x3 q.1 q.2)) (P := fun (q : Int32 × cr_Hp) => cr_J w 21 p l e rm_L_flick s m args below meth c 2 24 (MQ below (cr_Qv w x) args s 2 24 (cr_A w)) q.2 15 [(0, .int x0), (1, .int x1), (2, .int x2), (3, .int x3), (4, .ref (w.1 a4_)), (5, .ref (w.1 a5_)), (6, .ref (w.1 a6_)), (7, .ref (w.1 a7_)), (8, .ref (w.1 a2)), (9, .ref (w.1 a8)), (10, .int q.1)] []) (K := fun z => z = e15) (fun q x hx kl kr => ?_) cr_FU ((0 : Int32), V8) e15 he15 rfl
  obtain ⟨x10_15, V_l15⟩ := q
  exact t_L_flick_l15 X a4_ a5_ a6_ a7_ a2 a8 x0 x1 x2 x3 x10_15 V_l15 ha4_ ha5_ ha6_ ha7_ ha2 ha8 x hx (fun x10_15 V_l15 ez => kl _ ez) (fun V_e15_74 ez => kx74 V_e15_74 ((kr _ ez).symm))
set_option maxRecDepth 100000 in
set_option maxHeartbeats 4000000 in
theorem m_L_flick (l : Launch) (w : cr_Wd) (V : cr_Hp) (nn : Nat) (a4_ : Nat) (a5_ : Nat) (a6_ : Nat) (a7_ : Nat) (x0 : Int32) (x1 : Int32) (x2 : Int32) (x3 : Int32) (hnn : cr_zn w = nn) (ha4_ : cr_iv w 8 a4_) (ha5_ : cr_iv w 60 a5_) (ha6_ : cr_iv w 12 a6_) (ha7_ : cr_iv w 5 a7_) (x : cr_Hp) (h : f_L_flick nn a4_ a5_ a6_ a7_ x0 x1 x2 x3 V = some x) : Met l yL_flick (cr_wds yL_flick cL_flick 21 none) rm_L_flick (cr_Pc w V [.int x0, .int x1, .int x2, .int x3, .ref (w.1 a4_), .ref (w.1 a5_), .ref (w.1 a6_), .ref (w.1 a7_)]) (cr_Qv w x) 2 24 (cr_A w) := by
  refine cr_met (own := RL) (lv := [(0, .int x0), (1, .int x1), (2, .int x2), (3, .int x3), (4, .ref (w.1 a4_)), (5, .ref (w.1 a5_)), (6, .ref (w.1 a6_)), (7, .ref (w.1 a7_))]) (by decide +kernel) rfl (Nat.le_of_ble_eq_true rfl) rfl (fun p e s m args below meth c X hr0 => ?_)
  exact t_L_flick X nn a4_ a5_ a6_ a7_ x0 x1 x2 x3 V hnn ha4_ ha5_ ha6_ ha7_ hr0 x h
