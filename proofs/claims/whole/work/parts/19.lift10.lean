abbrev rm_X8_flicks : Room := { frames := 5, cells := 0, slots := 0, locals := 123 }
theorem hd_X8_flicks : yX8_flicks.cls = RX8 ∧ yX8_flicks.cls ≠ "java/lang/invoke/MethodHandle" ∧ yX8_flicks.cls ≠ "java/lang/invoke/VarHandle" ∧ (parseMethodDescriptor yX8_flicks.desc).map (fun d => d.parameters.length) = some 4 := by decide +kernel
def f_X8_flicks_l3 (x1 : Int32) (x2 : Int32) (x3 : Int32) (x4 : Int32) (x5_3 : Int32) (V_l3 : cr_Hp) : Option ((Int32 × cr_Hp) ⊕ cr_Hp) :=
  cr_gd (cr_ix (0 : Int32) 80) (if (V_l3 160 (0 : Int32).toNatClampNeg) ≤ x5_3 then (some (.inr V_l3)) else (cr_bd (f_X8_isThere x5_3 V_l3) (fun (r23 : Int32) => if r23 = 0 then (cr_gd (cr_ix x5_3 12) (cr_lt (cr_pt V_l3 166 x5_3.toNatClampNeg (0 : Int32)) (fun (V39 : cr_Hp) => some (.inl ((x5_3 + (1 : Int32)), V39))))) else (cr_bd (f_X8_ringsOfMarble x5_3 V_l3) (fun (r32 : Int32) => cr_gd (cr_ix x5_3 12) (cr_lt (cr_pt V_l3 166 x5_3.toNatClampNeg r32) (fun (V39 : cr_Hp) => some (.inl ((x5_3 + (1 : Int32)), V39)))))))))
set_option maxRecDepth 100000 in
set_option maxHeartbeats 4000000 in
theorem t_X8_flicks_l3 {p : Program} {l : Launch} {e : Env} {s : State} {m : MethodId} {args : Array Value} {below : List Frame} {meth : Method} {c : Code} {w : cr_Wd} {Q : State → Prop} (X : cr_Cx w RX8 (Cond.code yX8_flicks cX8_flicks 8 none) cX8_flicks 8 p s m args meth c) (x1 : Int32) (x2 : Int32) (x3 : Int32) (x4 : Int32) (x5_3 : Int32) (V_l3 : cr_Hp)  (x : (Int32 × cr_Hp) ⊕ cr_Hp) (h : f_X8_flicks_l3 x1 x2 x3 x4 x5_3 V_l3 = some x) (kl : ∀ (x5_3 : Int32) (V_l3 : cr_Hp), x = .inl (x5_3, V_l3) → cr_J w 8 p l e rm_X8_flicks s m args below meth c 0 0 Q V_l3 3 [(0, .ref (w.1 159)), (1, .int x1), (2, .int x2), (3, .int x3), (4, .int x4), (5, .int x5_3)] []) (kr46 : ∀ (V_e3_46 : cr_Hp), x = .inr V_e3_46 → cr_J w 8 p l e rm_X8_flicks s m args below meth c 0 0 Q V_e3_46 46 [(0, .ref (w.1 159)), (1, .int x1), (2, .int x2), (3, .int x3), (4, .int x4)] []) : cr_J w 8 p l e rm_X8_flicks s m args below meth c 0 0 Q V_l3 3 [(0, .ref (w.1 159)), (1, .int x1), (2, .int x2), (3, .int x3), (4, .int x4), (5, .int x5_3)] [] := by
  unfold f_X8_flicks_l3 at h
  refine jr_iload X.c dX8_flicks_3 5 rfl ?_
  refine jr_aload_n X.c dX8_flicks_5 rfl 0 rfl ?_
  refine jr_get X.c (ci := 8) (C := RX8) (T := TX8) (N := 22) (k := 0) rfl cr_in8 (by decide) ((cr_row_159 w) _) rfl (by decide) fl_X8_7 dX8_flicks_6 ?_
  refine jr_iconst X.c (v := (0 : Int32)) dX8_flicks_9 (by decide) ?_
  obtain ⟨hi10, h⟩ := cr_gd_s h
  refine jr_iald X.c (by decide) ((cr_row_160 w) _) hi10 dX8_flicks_10 ?_
  refine jr_icmp_ge X.c 46 dX8_flicks_11 (by decide) (fun q11 => ?_) (fun q11 => ?_)
  · replace h := cr_if_t q11 h
    cases h
    refine jr_sub [0, 1, 2, 3, 4] rfl ?_
    exact kr46 V_l3 rfl
  · replace h := cr_if_f q11 h
    refine jr_aload_n X.c dX8_flicks_14 rfl 0 rfl ?_
    refine jr_get X.c (ci := 8) (C := RX8) (T := TX8) (N := 22) (k := 8) rfl cr_in8 (by decide) ((cr_row_159 w) _) rfl (by decide) fl_X8_28 dX8_flicks_15 ?_
    refine jr_iload X.c dX8_flicks_18 5 rfl ?_
    refine jr_aload_n X.c dX8_flicks_20 rfl 0 rfl ?_
    refine jr_iload X.c dX8_flicks_21 5 rfl ?_
    obtain ⟨r23, hr23, h⟩ := cr_bd_s h
    refine jc_Vi X.c (As := [.int x5_3]) (V1 := V_l3) (C := RX8) (T := TX8) (N := 22) (ci := 8) 1 (m_X8_isThere l w V_l3 x5_3  r23 hr23) ⟨rfl, rfl⟩ ml_X8_56 im_X8_isThere sl_X8_isThere in_X8 cd_X8_isThere hd_X8_isThere ⟨Nat.le_of_ble_eq_true rfl, Nat.le_of_ble_eq_true rfl⟩ ⟨Nat.le_of_ble_eq_true rfl, Nat.le_of_ble_eq_true rfl⟩ rfl (Nat.le_of_ble_eq_true rfl) (by decide) ((cr_row_159 w) _) rfl rfl dX8_flicks_23 ?_
    refine jr_if_eq X.c 38 dX8_flicks_26 (by decide) (fun q26 => ?_) (fun q26 => ?_)
    · replace h := cr_if_t q26 h
      refine jr_iconst X.c (v := (0 : Int32)) dX8_flicks_38 (by decide) ?_
      obtain ⟨hi39, h⟩ := cr_gd_s h
      obtain ⟨V39, eV39, h⟩ := cr_lt_s h
      refine jr_iast X.c (by decide) (cr_row_166 w) hi39 dX8_flicks_39 eV39 ?_
      refine jr_iinc X.c (v := (x5_3 + (1 : Int32))) (lv2 := [(5, .int (x5_3 + (1 : Int32))), (0, .ref (w.1 159)), (1, .int x1), (2, .int x2), (3, .int x3), (4, .int x4)]) dX8_flicks_40 5 rfl (by rfl) (by decide) rfl ?_
      refine jr_goto X.c 3 dX8_flicks_43 (by decide) ?_
      cases h
      refine jr_sub [1, 2, 3, 4, 5, 0] rfl ?_
      exact kl (x5_3 + (1 : Int32)) V39 rfl
    · replace h := cr_if_f q26 h
      refine jr_aload_n X.c dX8_flicks_29 rfl 0 rfl ?_
      refine jr_iload X.c dX8_flicks_30 5 rfl ?_
      obtain ⟨r32, hr32, h⟩ := cr_bd_s h
      refine jc_Vi X.c (As := [.int x5_3]) (V1 := V_l3) (C := RX8) (T := TX8) (N := 22) (ci := 8) 1 (m_X8_ringsOfMarble l w V_l3 x5_3  r32 hr32) ⟨rfl, rfl⟩ ml_X8_66 im_X8_ringsOfMarble sl_X8_ringsOfMarble in_X8 cd_X8_ringsOfMarble hd_X8_ringsOfMarble ⟨Nat.le_of_ble_eq_true rfl, Nat.le_of_ble_eq_true rfl⟩ ⟨Nat.le_of_ble_eq_true rfl, Nat.le_of_ble_eq_true rfl⟩ rfl (Nat.le_of_ble_eq_true rfl) (by decide) ((cr_row_159 w) _) rfl rfl dX8_flicks_32 ?_
      refine jr_goto X.c 39 dX8_flicks_35 (by decide) ?_
      obtain ⟨hi39, h⟩ := cr_gd_s h
      obtain ⟨V39, eV39, h⟩ := cr_lt_s h
      refine jr_iast X.c (by decide) (cr_row_166 w) hi39 dX8_flicks_39 eV39 ?_
      refine jr_iinc X.c (v := (x5_3 + (1 : Int32))) (lv2 := [(5, .int (x5_3 + (1 : Int32))), (0, .ref (w.1 159)), (1, .int x1), (2, .int x2), (3, .int x3), (4, .int x4)]) dX8_flicks_40 5 rfl (by rfl) (by decide) rfl ?_
      refine jr_goto X.c 3 dX8_flicks_43 (by decide) ?_
      cases h
      refine jr_sub [1, 2, 3, 4, 5, 0] rfl ?_
      exact kl (x5_3 + (1 : Int32)) V39 rfl
def f_X8_flicks_b139 (x1 : Int32) (x5_80 : Int32) (x6_80 : Int32) (z0_139 : Int32) (V_l80 : cr_Hp) : Option ((Int32 × Int32 × cr_Hp) ⊕ (Int32 × cr_Hp)) :=
  if z0_139 = 0 then (some (.inl (x5_80, (x6_80 + (1 : Int32)), V_l80))) else (cr_bd (f_X8_setPart x6_80 (4 : Int32) x1 V_l80) (fun (V151 : cr_Hp) => cr_lt (cr_pt V151 159 13 ((V151 159 13) + (1 : Int32))) (fun (V161 : cr_Hp) => cr_bd (f_X8_part x6_80 (2 : Int32) V161) (fun (r173 : Int32) => cr_lt (cr_pt V161 159 14 ((V161 159 14) + r173)) (fun (V177 : cr_Hp) => cr_gd (cr_ix x6_80 12) (cr_lt ((x5_80 ||| (V177 166 x6_80.toNatClampNeg))) (fun (n190 : Int32) => some (.inl (n190, (x6_80 + (1 : Int32)), V177)))))))))
set_option maxRecDepth 100000 in
set_option maxHeartbeats 4000000 in
theorem t_X8_flicks_b139 {p : Program} {l : Launch} {e : Env} {s : State} {m : MethodId} {args : Array Value} {below : List Frame} {meth : Method} {c : Code} {w : cr_Wd} {Q : State → Prop} (X : cr_Cx w RX8 (Cond.code yX8_flicks cX8_flicks 8 none) cX8_flicks 8 p s m args meth c) (x1 : Int32) (x5_80 : Int32) (x6_80 : Int32) (z0_139 : Int32) (V_l80 : cr_Hp)  (x : (Int32 × Int32 × cr_Hp) ⊕ (Int32 × cr_Hp)) (h : f_X8_flicks_b139 x1 x5_80 x6_80 z0_139 V_l80 = some x) (kl : ∀ (x5_80 : Int32) (x6_80 : Int32) (V_l80 : cr_Hp), x = .inl (x5_80, x6_80, V_l80) → cr_J w 8 p l e rm_X8_flicks s m args below meth c 0 0 Q V_l80 80 [(0, .ref (w.1 159)), (1, .int x1), (5, .int x5_80), (6, .int x6_80)] []) (kr198 : ∀ (u5_80_198 : Int32) (V_e80_198 : cr_Hp), x = .inr (u5_80_198, V_e80_198) → cr_J w 8 p l e rm_X8_flicks s m args below meth c 0 0 Q V_e80_198 198 [(0, .ref (w.1 159)), (5, .int u5_80_198)] []) : cr_J w 8 p l e rm_X8_flicks s m args below meth c 0 0 Q V_l80 139 [(0, .ref (w.1 159)), (1, .int x1), (5, .int x5_80), (6, .int x6_80)] [.int z0_139] := by
  unfold f_X8_flicks_b139 at h
  refine jr_istore X.c (lv2 := [(7, .int z0_139), (0, .ref (w.1 159)), (1, .int x1), (5, .int x5_80), (6, .int x6_80)]) dX8_flicks_139 (by decide) rfl ?_
  refine jr_iload X.c dX8_flicks_141 0 rfl ?_
  refine jr_if_eq X.c 192 dX8_flicks_143 (by decide) (fun q143 => ?_) (fun q143 => ?_)
  · replace h := cr_if_t q143 h
    refine jr_iinc X.c (v := (x6_80 + (1 : Int32))) (lv2 := [(6, .int (x6_80 + (1 : Int32))), (7, .int z0_139), (0, .ref (w.1 159)), (1, .int x1), (5, .int x5_80)]) dX8_flicks_192 4 rfl (by rfl) (by decide) rfl ?_
    refine jr_goto X.c 80 dX8_flicks_195 (by decide) ?_
    cases h
    refine jr_sub [2, 3, 4, 0] rfl ?_
    exact kl x5_80 (x6_80 + (1 : Int32)) V_l80 rfl
  · replace h := cr_if_f q143 h
    refine jr_aload_n X.c dX8_flicks_146 rfl 1 rfl ?_
    refine jr_iload X.c dX8_flicks_147 4 rfl ?_
    refine jr_iconst X.c (v := (4 : Int32)) dX8_flicks_149 (by decide) ?_
    refine jr_iload_n X.c dX8_flicks_150 rfl 2 rfl ?_
    obtain ⟨V151, hr151, h⟩ := cr_bd_s h
    refine jc_Vv X.c (As := [.int x6_80, .int (4 : Int32), .int x1]) (V1 := V151) (C := RX8) (T := TX8) (N := 22) (ci := 8) 3 (m_X8_setPart l w V_l80 x6_80 (4 : Int32) x1  V151 hr151) ⟨rfl, rfl⟩ ml_X8_73 im_X8_setPart sl_X8_setPart in_X8 cd_X8_setPart hd_X8_setPart ⟨Nat.le_of_ble_eq_true rfl, Nat.le_of_ble_eq_true rfl⟩ ⟨Nat.le_of_ble_eq_true rfl, Nat.le_of_ble_eq_true rfl⟩ rfl (Nat.le_of_ble_eq_true rfl) (by decide) ((cr_row_159 w) _) rfl rfl dX8_flicks_151 ?_
    refine jr_aload_n X.c dX8_flicks_154 rfl 1 rfl ?_
    refine jr_dup X.c dX8_flicks_155 rfl ?_
    refine jr_get X.c (ci := 8) (C := RX8) (T := TX8) (N := 22) (k := 13) rfl cr_in8 (by decide) ((cr_row_159 w) _) rfl (by decide) fl_X8_89 dX8_flicks_156 ?_
    refine jr_iconst X.c (v := (1 : Int32)) dX8_flicks_159 (by decide) ?_
    refine jr_iadd X.c dX8_flicks_160 ?_
    obtain ⟨V161, eV161, h⟩ := cr_lt_s h
    refine jr_put X.c (ci := 8) (C := RX8) (T := TX8) (N := 22) (k := 13) rfl cr_in8 tyX8 tyX8_ok nmX8 (by decide) (cr_row_159 w) rfl (Nat.le_of_ble_eq_true rfl) (by decide) rfl rfl rfl fl_X8_89 dX8_flicks_161 eV161 ?_
    refine jr_aload_n X.c dX8_flicks_164 rfl 1 rfl ?_
    refine jr_dup X.c dX8_flicks_165 rfl ?_
    refine jr_get X.c (ci := 8) (C := RX8) (T := TX8) (N := 22) (k := 14) rfl cr_in8 (by decide) ((cr_row_159 w) _) rfl (by decide) fl_X8_92 dX8_flicks_166 ?_
    refine jr_aload_n X.c dX8_flicks_169 rfl 1 rfl ?_
    refine jr_iload X.c dX8_flicks_170 4 rfl ?_
    refine jr_iconst X.c (v := (2 : Int32)) dX8_flicks_172 (by decide) ?_
    obtain ⟨r173, hr173, h⟩ := cr_bd_s h
    refine jc_Vi X.c (As := [.int x6_80, .int (2 : Int32)]) (V1 := V161) (C := RX8) (T := TX8) (N := 22) (ci := 8) 2 (m_X8_part l w V161 x6_80 (2 : Int32)  r173 hr173) ⟨rfl, rfl⟩ ml_X8_43 im_X8_part sl_X8_part in_X8 cd_X8_part hd_X8_part ⟨Nat.le_of_ble_eq_true rfl, Nat.le_of_ble_eq_true rfl⟩ ⟨Nat.le_of_ble_eq_true rfl, Nat.le_of_ble_eq_true rfl⟩ rfl (Nat.le_of_ble_eq_true rfl) (by decide) ((cr_row_159 w) _) rfl rfl dX8_flicks_173 ?_
    refine jr_iadd X.c dX8_flicks_176 ?_
    obtain ⟨V177, eV177, h⟩ := cr_lt_s h
    refine jr_put X.c (ci := 8) (C := RX8) (T := TX8) (N := 22) (k := 14) rfl cr_in8 tyX8 tyX8_ok nmX8 (by decide) (cr_row_159 w) rfl (Nat.le_of_ble_eq_true rfl) (by decide) rfl rfl rfl fl_X8_92 dX8_flicks_177 eV177 ?_
    refine jr_iload X.c dX8_flicks_180 3 rfl ?_
    refine jr_aload_n X.c dX8_flicks_182 rfl 1 rfl ?_
    refine jr_get X.c (ci := 8) (C := RX8) (T := TX8) (N := 22) (k := 8) rfl cr_in8 (by decide) ((cr_row_159 w) _) rfl (by decide) fl_X8_28 dX8_flicks_183 ?_
    refine jr_iload X.c dX8_flicks_186 4 rfl ?_
    obtain ⟨hi188, h⟩ := cr_gd_s h
    refine jr_iald X.c (by decide) ((cr_row_166 w) _) hi188 dX8_flicks_188 ?_
    refine jr_ior X.c dX8_flicks_189 ?_
    obtain ⟨n190, en190, h⟩ := cr_lt_s h
    refine jr_top en190 ?_
    refine jr_istore X.c (lv2 := [(5, .int n190), (7, .int z0_139), (0, .ref (w.1 159)), (1, .int x1), (6, .int x6_80)]) dX8_flicks_190 (by decide) rfl ?_
    refine jr_iinc X.c (v := (x6_80 + (1 : Int32))) (lv2 := [(6, .int (x6_80 + (1 : Int32))), (5, .int n190), (7, .int z0_139), (0, .ref (w.1 159)), (1, .int x1)]) dX8_flicks_192 4 rfl (by rfl) (by decide) rfl ?_
    refine jr_goto X.c 80 dX8_flicks_195 (by decide) ?_
    cases h
    refine jr_sub [3, 4, 1, 0] rfl ?_
    exact kl n190 (x6_80 + (1 : Int32)) V177 rfl
def f_X8_flicks_b138 (x1 : Int32) (x5_80 : Int32) (x6_80 : Int32) (V_l80 : cr_Hp) : Option ((Int32 × Int32 × cr_Hp) ⊕ (Int32 × cr_Hp)) :=
  f_X8_flicks_b139 x1 x5_80 x6_80 (0 : Int32) V_l80
set_option maxRecDepth 100000 in
set_option maxHeartbeats 4000000 in
theorem t_X8_flicks_b138 {p : Program} {l : Launch} {e : Env} {s : State} {m : MethodId} {args : Array Value} {below : List Frame} {meth : Method} {c : Code} {w : cr_Wd} {Q : State → Prop} (X : cr_Cx w RX8 (Cond.code yX8_flicks cX8_flicks 8 none) cX8_flicks 8 p s m args meth c) (x1 : Int32) (x5_80 : Int32) (x6_80 : Int32) (V_l80 : cr_Hp)  (x : (Int32 × Int32 × cr_Hp) ⊕ (Int32 × cr_Hp)) (h : f_X8_flicks_b138 x1 x5_80 x6_80 V_l80 = some x) (kl : ∀ (x5_80 : Int32) (x6_80 : Int32) (V_l80 : cr_Hp), x = .inl (x5_80, x6_80, V_l80) → cr_J w 8 p l e rm_X8_flicks s m args below meth c 0 0 Q V_l80 80 [(0, .ref (w.1 159)), (1, .int x1), (5, .int x5_80), (6, .int x6_80)] []) (kr198 : ∀ (u5_80_198 : Int32) (V_e80_198 : cr_Hp), x = .inr (u5_80_198, V_e80_198) → cr_J w 8 p l e rm_X8_flicks s m args below meth c 0 0 Q V_e80_198 198 [(0, .ref (w.1 159)), (5, .int u5_80_198)] []) : cr_J w 8 p l e rm_X8_flicks s m args below meth c 0 0 Q V_l80 138 [(0, .ref (w.1 159)), (1, .int x1), (5, .int x5_80), (6, .int x6_80)] [] := by
  unfold f_X8_flicks_b138 at h
  refine jr_iconst X.c (v := (0 : Int32)) dX8_flicks_138 (by decide) ?_
  refine jr_sub [0, 1, 2, 3] rfl ?_
  exact t_X8_flicks_b139 X x1 x5_80 x6_80 (0 : Int32) V_l80  x h kl kr198
def f_X8_flicks_l80 (x1 : Int32) (x5_80 : Int32) (x6_80 : Int32) (V_l80 : cr_Hp) : Option ((Int32 × Int32 × cr_Hp) ⊕ (Int32 × cr_Hp)) :=
  cr_gd (cr_ix (0 : Int32) 80) (if (V_l80 160 (0 : Int32).toNatClampNeg) ≤ x6_80 then (some (.inr (x5_80, V_l80))) else (if (((V_l80 159 9) >>> (x6_80 &&& 31)) &&& (1 : Int32)) = (1 : Int32) then (cr_bd (f_X8_part x6_80 (3 : Int32) V_l80) (fun (r108 : Int32) => if r108 = x1 then (f_X8_flicks_b138 x1 x5_80 x6_80 V_l80) else (cr_gd (cr_ix x6_80 12) (if (V_l80 166 x6_80.toNatClampNeg) = 0 then (f_X8_flicks_b138 x1 x5_80 x6_80 V_l80) else (cr_bd (f_X8_ringsOfMarble x6_80 V_l80) (fun (r128 : Int32) => if r128 = 0 then (f_X8_flicks_b139 x1 x5_80 x6_80 (1 : Int32) V_l80) else (f_X8_flicks_b138 x1 x5_80 x6_80 V_l80))))))) else (f_X8_flicks_b138 x1 x5_80 x6_80 V_l80)))
set_option maxRecDepth 100000 in
set_option maxHeartbeats 4000000 in
theorem t_X8_flicks_l80 {p : Program} {l : Launch} {e : Env} {s : State} {m : MethodId} {args : Array Value} {below : List Frame} {meth : Method} {c : Code} {w : cr_Wd} {Q : State → Prop} (X : cr_Cx w RX8 (Cond.code yX8_flicks cX8_flicks 8 none) cX8_flicks 8 p s m args meth c) (x1 : Int32) (x5_80 : Int32) (x6_80 : Int32) (V_l80 : cr_Hp)  (x : (Int32 × Int32 × cr_Hp) ⊕ (Int32 × cr_Hp)) (h : f_X8_flicks_l80 x1 x5_80 x6_80 V_l80 = some x) (kl : ∀ (x5_80 : Int32) (x6_80 : Int32) (V_l80 : cr_Hp), x = .inl (x5_80, x6_80, V_l80) → cr_J w 8 p l e rm_X8_flicks s m args below meth c 0 0 Q V_l80 80 [(0, .ref (w.1 159)), (1, .int x1), (5, .int x5_80), (6, .int x6_80)] []) (kr198 : ∀ (u5_80_198 : Int32) (V_e80_198 : cr_Hp), x = .inr (u5_80_198, V_e80_198) → cr_J w 8 p l e rm_X8_flicks s m args below meth c 0 0 Q V_e80_198 198 [(0, .ref (w.1 159)), (5, .int u5_80_198)] []) : cr_J w 8 p l e rm_X8_flicks s m args below meth c 0 0 Q V_l80 80 [(0, .ref (w.1 159)), (1, .int x1), (5, .int x5_80), (6, .int x6_80)] [] := by
  unfold f_X8_flicks_l80 at h
  refine jr_iload X.c dX8_flicks_80 3 rfl ?_
  refine jr_aload_n X.c dX8_flicks_82 rfl 0 rfl ?_
  refine jr_get X.c (ci := 8) (C := RX8) (T := TX8) (N := 22) (k := 0) rfl cr_in8 (by decide) ((cr_row_159 w) _) rfl (by decide) fl_X8_7 dX8_flicks_83 ?_
  refine jr_iconst X.c (v := (0 : Int32)) dX8_flicks_86 (by decide) ?_
  obtain ⟨hi87, h⟩ := cr_gd_s h
  refine jr_iald X.c (by decide) ((cr_row_160 w) _) hi87 dX8_flicks_87 ?_
  refine jr_icmp_ge X.c 198 dX8_flicks_88 (by decide) (fun q88 => ?_) (fun q88 => ?_)
  · replace h := cr_if_t q88 h
    cases h
    refine jr_sub [0, 2] rfl ?_
    exact kr198 x5_80 V_l80 rfl
  · replace h := cr_if_f q88 h
    refine jr_aload_n X.c dX8_flicks_91 rfl 0 rfl ?_
    refine jr_get X.c (ci := 8) (C := RX8) (T := TX8) (N := 22) (k := 9) rfl cr_in8 (by decide) ((cr_row_159 w) _) rfl (by decide) fl_X8_60 dX8_flicks_92 ?_
    refine jr_iload X.c dX8_flicks_95 3 rfl ?_
    refine jr_ishr X.c dX8_flicks_97 ?_
    refine jr_iconst X.c (v := (1 : Int32)) dX8_flicks_98 (by decide) ?_
    refine jr_iand X.c dX8_flicks_99 ?_
    refine jr_iconst X.c (v := (1 : Int32)) dX8_flicks_100 (by decide) ?_
    refine jr_icmp_ne X.c 138 dX8_flicks_101 (by decide) (fun q101 => ?_) (fun q101 => ?_)
    · replace h := cr_if_f q101 h
      refine jr_sub [0, 1, 2, 3] rfl ?_
      exact t_X8_flicks_b138 X x1 x5_80 x6_80 V_l80  x h kl kr198
    · replace h := cr_if_t q101 h
      refine jr_aload_n X.c dX8_flicks_104 rfl 0 rfl ?_
      refine jr_iload X.c dX8_flicks_105 3 rfl ?_
      refine jr_iconst X.c (v := (3 : Int32)) dX8_flicks_107 (by decide) ?_
      obtain ⟨r108, hr108, h⟩ := cr_bd_s h
      refine jc_Vi X.c (As := [.int x6_80, .int (3 : Int32)]) (V1 := V_l80) (C := RX8) (T := TX8) (N := 22) (ci := 8) 2 (m_X8_part l w V_l80 x6_80 (3 : Int32)  r108 hr108) ⟨rfl, rfl⟩ ml_X8_43 im_X8_part sl_X8_part in_X8 cd_X8_part hd_X8_part ⟨Nat.le_of_ble_eq_true rfl, Nat.le_of_ble_eq_true rfl⟩ ⟨Nat.le_of_ble_eq_true rfl, Nat.le_of_ble_eq_true rfl⟩ rfl (Nat.le_of_ble_eq_true rfl) (by decide) ((cr_row_159 w) _) rfl rfl dX8_flicks_108 ?_
      refine jr_iload_n X.c dX8_flicks_111 rfl 1 rfl ?_
      refine jr_icmp_eq X.c 138 dX8_flicks_112 (by decide) (fun q112 => ?_) (fun q112 => ?_)
      · replace h := cr_if_t q112 h
        refine jr_sub [0, 1, 2, 3] rfl ?_
        exact t_X8_flicks_b138 X x1 x5_80 x6_80 V_l80  x h kl kr198
      · replace h := cr_if_f q112 h
        refine jr_aload_n X.c dX8_flicks_115 rfl 0 rfl ?_
        refine jr_get X.c (ci := 8) (C := RX8) (T := TX8) (N := 22) (k := 8) rfl cr_in8 (by decide) ((cr_row_159 w) _) rfl (by decide) fl_X8_28 dX8_flicks_116 ?_
        refine jr_iload X.c dX8_flicks_119 3 rfl ?_
        obtain ⟨hi121, h⟩ := cr_gd_s h
        refine jr_iald X.c (by decide) ((cr_row_166 w) _) hi121 dX8_flicks_121 ?_
        refine jr_if_eq X.c 138 dX8_flicks_122 (by decide) (fun q122 => ?_) (fun q122 => ?_)
        · replace h := cr_if_t q122 h
          refine jr_sub [0, 1, 2, 3] rfl ?_
          exact t_X8_flicks_b138 X x1 x5_80 x6_80 V_l80  x h kl kr198
        · replace h := cr_if_f q122 h
          refine jr_aload_n X.c dX8_flicks_125 rfl 0 rfl ?_
          refine jr_iload X.c dX8_flicks_126 3 rfl ?_
          obtain ⟨r128, hr128, h⟩ := cr_bd_s h
          refine jc_Vi X.c (As := [.int x6_80]) (V1 := V_l80) (C := RX8) (T := TX8) (N := 22) (ci := 8) 1 (m_X8_ringsOfMarble l w V_l80 x6_80  r128 hr128) ⟨rfl, rfl⟩ ml_X8_66 im_X8_ringsOfMarble sl_X8_ringsOfMarble in_X8 cd_X8_ringsOfMarble hd_X8_ringsOfMarble ⟨Nat.le_of_ble_eq_true rfl, Nat.le_of_ble_eq_true rfl⟩ ⟨Nat.le_of_ble_eq_true rfl, Nat.le_of_ble_eq_true rfl⟩ rfl (Nat.le_of_ble_eq_true rfl) (by decide) ((cr_row_159 w) _) rfl rfl dX8_flicks_128 ?_
          refine jr_if_ne X.c 138 dX8_flicks_131 (by decide) (fun q131 => ?_) (fun q131 => ?_)
          · replace h := cr_if_f q131 h
            refine jr_sub [0, 1, 2, 3] rfl ?_
            exact t_X8_flicks_b138 X x1 x5_80 x6_80 V_l80  x h kl kr198
          · replace h := cr_if_t q131 h
            refine jr_iconst X.c (v := (1 : Int32)) dX8_flicks_134 (by decide) ?_
            refine jr_goto X.c 139 dX8_flicks_135 (by decide) ?_
            refine jr_sub [0, 1, 2, 3] rfl ?_
            exact t_X8_flicks_b139 X x1 x5_80 x6_80 (1 : Int32) V_l80  x h kl kr198
def f_X8_flicks_l214 (u5_80_198 : Int32) (x6_214 : Int32) (V_l214 : cr_Hp) : Option ((Int32 × cr_Hp) ⊕ cr_Hp) :=
  cr_gd (cr_ix (1 : Int32) 80) (if (V_l214 160 (1 : Int32).toNatClampNeg) ≤ x6_214 then (some (.inr V_l214)) else (if ((u5_80_198 >>> (x6_214 &&& 31)) &&& (1 : Int32)) = (1 : Int32) then (cr_bd (f_X8_ringPart x6_214 (2 : Int32) V_l214) (fun (r240 : Int32) => if (15 : Int32) ≤ r240 then (some (.inl ((x6_214 + (1 : Int32)), V_l214))) else (cr_gd (cr_ix (((68 : Int32) + ((3 : Int32) * x6_214)) + (2 : Int32)) 80) (cr_gd (cr_ix (((68 : Int32) + ((3 : Int32) * x6_214)) + (2 : Int32)) 80) (cr_lt (cr_pt V_l214 160 (((68 : Int32) + ((3 : Int32) * x6_214)) + (2 : Int32)).toNatClampNeg ((V_l214 160 (((68 : Int32) + ((3 : Int32) * x6_214)) + (2 : Int32)).toNatClampNeg) + (1 : Int32))) (fun (V265 : cr_Hp) => cr_gd (cr_ix (6 : Int32) 80) (cr_gd (cr_ix (6 : Int32) 80) (cr_lt (cr_pt V265 160 (6 : Int32).toNatClampNeg ((V265 160 (6 : Int32).toNatClampNeg) + (1 : Int32))) (fun (V276 : cr_Hp) => some (.inl ((x6_214 + (1 : Int32)), V276))))))))))) else (some (.inl ((x6_214 + (1 : Int32)), V_l214)))))
set_option maxRecDepth 100000 in
set_option maxHeartbeats 4000000 in
theorem t_X8_flicks_l214 {p : Program} {l : Launch} {e : Env} {s : State} {m : MethodId} {args : Array Value} {below : List Frame} {meth : Method} {c : Code} {w : cr_Wd} {Q : State → Prop} (X : cr_Cx w RX8 (Cond.code yX8_flicks cX8_flicks 8 none) cX8_flicks 8 p s m args meth c) (u5_80_198 : Int32) (x6_214 : Int32) (V_l214 : cr_Hp)  (x : (Int32 × cr_Hp) ⊕ cr_Hp) (h : f_X8_flicks_l214 u5_80_198 x6_214 V_l214 = some x) (kl : ∀ (x6_214 : Int32) (V_l214 : cr_Hp), x = .inl (x6_214, V_l214) → cr_J w 8 p l e rm_X8_flicks s m args below meth c 0 0 Q V_l214 214 [(0, .ref (w.1 159)), (5, .int u5_80_198), (6, .int x6_214)] []) (kr283 : ∀ (V_e214_283 : cr_Hp), x = .inr V_e214_283 → cr_J w 8 p l e rm_X8_flicks s m args below meth c 0 0 Q V_e214_283 283 [] []) : cr_J w 8 p l e rm_X8_flicks s m args below meth c 0 0 Q V_l214 214 [(0, .ref (w.1 159)), (5, .int u5_80_198), (6, .int x6_214)] [] := by
  unfold f_X8_flicks_l214 at h
  refine jr_iload X.c dX8_flicks_214 2 rfl ?_
  refine jr_aload_n X.c dX8_flicks_216 rfl 0 rfl ?_
  refine jr_get X.c (ci := 8) (C := RX8) (T := TX8) (N := 22) (k := 0) rfl cr_in8 (by decide) ((cr_row_159 w) _) rfl (by decide) fl_X8_7 dX8_flicks_217 ?_
  refine jr_iconst X.c (v := (1 : Int32)) dX8_flicks_220 (by decide) ?_
  obtain ⟨hi221, h⟩ := cr_gd_s h
  refine jr_iald X.c (by decide) ((cr_row_160 w) _) hi221 dX8_flicks_221 ?_
  refine jr_icmp_ge X.c 283 dX8_flicks_222 (by decide) (fun q222 => ?_) (fun q222 => ?_)
  · replace h := cr_if_t q222 h
    cases h
    refine jr_sub [] rfl ?_
    exact kr283 V_l214 rfl
  · replace h := cr_if_f q222 h
    refine jr_iload X.c dX8_flicks_225 1 rfl ?_
    refine jr_iload X.c dX8_flicks_227 2 rfl ?_
    refine jr_ishr X.c dX8_flicks_229 ?_
    refine jr_iconst X.c (v := (1 : Int32)) dX8_flicks_230 (by decide) ?_
    refine jr_iand X.c dX8_flicks_231 ?_
    refine jr_iconst X.c (v := (1 : Int32)) dX8_flicks_232 (by decide) ?_
    refine jr_icmp_ne X.c 277 dX8_flicks_233 (by decide) (fun q233 => ?_) (fun q233 => ?_)
    · replace h := cr_if_f q233 h
      refine jr_iinc X.c (v := (x6_214 + (1 : Int32))) (lv2 := [(6, .int (x6_214 + (1 : Int32))), (0, .ref (w.1 159)), (5, .int u5_80_198)]) dX8_flicks_277 2 rfl (by rfl) (by decide) rfl ?_
      refine jr_goto X.c 214 dX8_flicks_280 (by decide) ?_
      cases h
      refine jr_sub [1, 2, 0] rfl ?_
      exact kl (x6_214 + (1 : Int32)) V_l214 rfl
    · replace h := cr_if_t q233 h
      refine jr_aload_n X.c dX8_flicks_236 rfl 0 rfl ?_
      refine jr_iload X.c dX8_flicks_237 2 rfl ?_
      refine jr_iconst X.c (v := (2 : Int32)) dX8_flicks_239 (by decide) ?_
      obtain ⟨r240, hr240, h⟩ := cr_bd_s h
      refine jc_Vi X.c (As := [.int x6_214, .int (2 : Int32)]) (V1 := V_l214) (C := RX8) (T := TX8) (N := 22) (ci := 8) 2 (m_X8_ringPart l w V_l214 x6_214 (2 : Int32)  r240 hr240) ⟨rfl, rfl⟩ ml_X8_47 im_X8_ringPart sl_X8_ringPart in_X8 cd_X8_ringPart hd_X8_ringPart ⟨Nat.le_of_ble_eq_true rfl, Nat.le_of_ble_eq_true rfl⟩ ⟨Nat.le_of_ble_eq_true rfl, Nat.le_of_ble_eq_true rfl⟩ rfl (Nat.le_of_ble_eq_true rfl) (by decide) ((cr_row_159 w) _) rfl rfl dX8_flicks_240 ?_
      refine jr_bipush X.c (v := (15 : Int32)) dX8_flicks_243 (by decide) ?_
      refine jr_icmp_ge X.c 277 dX8_flicks_245 (by decide) (fun q245 => ?_) (fun q245 => ?_)
      · replace h := cr_if_t q245 h
        refine jr_iinc X.c (v := (x6_214 + (1 : Int32))) (lv2 := [(6, .int (x6_214 + (1 : Int32))), (0, .ref (w.1 159)), (5, .int u5_80_198)]) dX8_flicks_277 2 rfl (by rfl) (by decide) rfl ?_
        refine jr_goto X.c 214 dX8_flicks_280 (by decide) ?_
        cases h
        refine jr_sub [1, 2, 0] rfl ?_
        exact kl (x6_214 + (1 : Int32)) V_l214 rfl
      · replace h := cr_if_f q245 h
        refine jr_aload_n X.c dX8_flicks_248 rfl 0 rfl ?_
        refine jr_get X.c (ci := 8) (C := RX8) (T := TX8) (N := 22) (k := 0) rfl cr_in8 (by decide) ((cr_row_159 w) _) rfl (by decide) fl_X8_7 dX8_flicks_249 ?_
        refine jr_bipush X.c (v := (68 : Int32)) dX8_flicks_252 (by decide) ?_
        refine jr_iconst X.c (v := (3 : Int32)) dX8_flicks_254 (by decide) ?_
        refine jr_iload X.c dX8_flicks_255 2 rfl ?_
        refine jr_imul X.c dX8_flicks_257 ?_
        refine jr_iadd X.c dX8_flicks_258 ?_
        refine jr_iconst X.c (v := (2 : Int32)) dX8_flicks_259 (by decide) ?_
        refine jr_iadd X.c dX8_flicks_260 ?_
        refine jr_dup2 X.c dX8_flicks_261 rfl rfl ?_
        obtain ⟨hi262, h⟩ := cr_gd_s h
        refine jr_iald X.c (by decide) ((cr_row_160 w) _) hi262 dX8_flicks_262 ?_
        refine jr_iconst X.c (v := (1 : Int32)) dX8_flicks_263 (by decide) ?_
        refine jr_iadd X.c dX8_flicks_264 ?_
        obtain ⟨hi265, h⟩ := cr_gd_s h
        obtain ⟨V265, eV265, h⟩ := cr_lt_s h
        refine jr_iast X.c (by decide) (cr_row_160 w) hi265 dX8_flicks_265 eV265 ?_
        refine jr_aload_n X.c dX8_flicks_266 rfl 0 rfl ?_
        refine jr_get X.c (ci := 8) (C := RX8) (T := TX8) (N := 22) (k := 0) rfl cr_in8 (by decide) ((cr_row_159 w) _) rfl (by decide) fl_X8_7 dX8_flicks_267 ?_
        refine jr_bipush X.c (v := (6 : Int32)) dX8_flicks_270 (by decide) ?_
        refine jr_dup2 X.c dX8_flicks_272 rfl rfl ?_
        obtain ⟨hi273, h⟩ := cr_gd_s h
        refine jr_iald X.c (by decide) ((cr_row_160 w) _) hi273 dX8_flicks_273 ?_
        refine jr_iconst X.c (v := (1 : Int32)) dX8_flicks_274 (by decide) ?_
        refine jr_iadd X.c dX8_flicks_275 ?_
        obtain ⟨hi276, h⟩ := cr_gd_s h
        obtain ⟨V276, eV276, h⟩ := cr_lt_s h
        refine jr_iast X.c (by decide) (cr_row_160 w) hi276 dX8_flicks_276 eV276 ?_
        refine jr_iinc X.c (v := (x6_214 + (1 : Int32))) (lv2 := [(6, .int (x6_214 + (1 : Int32))), (0, .ref (w.1 159)), (5, .int u5_80_198)]) dX8_flicks_277 2 rfl (by rfl) (by decide) rfl ?_
        refine jr_goto X.c 214 dX8_flicks_280 (by decide) ?_
        cases h
        refine jr_sub [1, 2, 0] rfl ?_
        exact kl (x6_214 + (1 : Int32)) V276 rfl
def f_X8_flicks (x1 : Int32) (x2 : Int32) (x3 : Int32) (x4 : Int32) (V : cr_Hp) : Option (cr_Hp) :=
  cr_bd (cr_it (fun (q : Int32 × cr_Hp) => f_X8_flicks_l3 x1 x2 x3 x4 q.1 q.2) cr_FU ((0 : Int32), V)) (fun (V_e3_46 : cr_Hp) => cr_bd (f_X8_rolls x2 x3 x4 V_e3_46) (fun (V51 : cr_Hp) => cr_gd (cr_ix (3 : Int32) 80) (cr_gd (cr_ix (3 : Int32) 80) (cr_lt (cr_pt V51 160 (3 : Int32).toNatClampNeg ((V51 160 (3 : Int32).toNatClampNeg) + (1 : Int32))) (fun (V63 : cr_Hp) => cr_lt (cr_pt V63 159 13 (0 : Int32)) (fun (V66 : cr_Hp) => cr_lt (cr_pt V66 159 14 (0 : Int32)) (fun (V71 : cr_Hp) => cr_bd (cr_it (fun (q : Int32 × Int32 × cr_Hp) => f_X8_flicks_l80 x1 q.1 q.2.1 q.2.2) cr_FU ((0 : Int32), (0 : Int32), V71)) (cr_u2 (fun (u5_80_198 : Int32) (V_e80_198 : cr_Hp) => cr_gd (cr_ix (5 : Int32) 80) (cr_gd (cr_ix (5 : Int32) 80) (cr_lt (cr_pt V_e80_198 160 (5 : Int32).toNatClampNeg ((V_e80_198 160 (5 : Int32).toNatClampNeg) + (V_e80_198 159 13))) (fun (V210 : cr_Hp) => cr_bd (cr_it (fun (q : Int32 × cr_Hp) => f_X8_flicks_l214 u5_80_198 q.1 q.2) cr_FU ((0 : Int32), V210)) (fun (V_e214_283 : cr_Hp) => some V_e214_283)))))))))))))
set_option maxRecDepth 100000 in
set_option maxHeartbeats 4000000 in
theorem t_X8_flicks {p : Program} {l : Launch} {e : Env} {s : State} {m : MethodId} {args : Array Value} {below : List Frame} {meth : Method} {c : Code} {w : cr_Wd} (X : cr_Cx w RX8 (Cond.code yX8_flicks cX8_flicks 8 none) cX8_flicks 8 p s m args meth c) (x1 : Int32) (x2 : Int32) (x3 : Int32) (x4 : Int32) (V : cr_Hp)  (hr0 : meth.sig.returnType = none) (x : cr_Hp) (h : f_X8_flicks x1 x2 x3 x4 V = some x) : cr_J w 8 p l e rm_X8_flicks s m args below meth c 0 0 (MQ below (cr_Qv w x) args s 0 0 (cr_A w)) V 0 [(0, .ref (w.1 159)), (1, .int x1), (2, .int x2), (3, .int x3), (4, .int x4)] [] := by
  unfold f_X8_flicks at h
  refine jr_iconst X.c (v := (0 : Int32)) dX8_flicks_0 (by decide) ?_
  refine jr_istore X.c (lv2 := [(5, .int (0 : Int32)), (0, .ref (w.1 159)), (1, .int x1), (2, .int x2), (3, .int x3), (4, .int x4)]) dX8_flicks_1 (by decide) rfl ?_
  obtain ⟨e3, he3, h⟩ := cr_bd_s h
  have kx46 : ∀ (V_e3_46 : cr_Hp), e3 = V_e3_46 → cr_J w 8 p l e rm_X8_flicks s m args below meth c 0 0 (MQ below (cr_Qv w x) args s 0 0 (cr_A w)) V_e3_46 46 [(0, .ref (w.1 159)), (1, .int x1), (2, .int x2), (3, .int x3), (4, .int x4)] [] := by
    intro V_e3_46 qx
    rw [qx] at h
    try simp only [cr_sm, cr_u2, cr_u3, cr_u4, cr_u5, cr_u6] at h
    refine jr_aload_n X.c dX8_flicks_46 rfl 0 rfl ?_
    refine jr_iload_n X.c dX8_flicks_47 rfl 2 rfl ?_
    refine jr_iload_n X.c dX8_flicks_48 rfl 3 rfl ?_
    refine jr_iload X.c dX8_flicks_49 4 rfl ?_
    obtain ⟨V51, hr51, h⟩ := cr_bd_s h
    refine jc_Vv X.c (As := [.int x2, .int x3, .int x4]) (V1 := V51) (C := RX8) (T := TX8) (N := 22) (ci := 8) 3 (m_X8_rolls l w V_e3_46 x2 x3 x4  V51 hr51) ⟨rfl, rfl⟩ ml_X8_86 im_X8_rolls sl_X8_rolls in_X8 cd_X8_rolls hd_X8_rolls ⟨Nat.le_of_ble_eq_true rfl, Nat.le_of_ble_eq_true rfl⟩ ⟨Nat.le_of_ble_eq_true rfl, Nat.le_of_ble_eq_true rfl⟩ rfl (Nat.le_of_ble_eq_true rfl) (by decide) ((cr_row_159 w) _) rfl rfl dX8_flicks_51 ?_
    refine jr_aload_n X.c dX8_flicks_54 rfl 0 rfl ?_
    refine jr_get X.c (ci := 8) (C := RX8) (T := TX8) (N := 22) (k := 0) rfl cr_in8 (by decide) ((cr_row_159 w) _) rfl (by decide) fl_X8_7 dX8_flicks_55 ?_
    refine jr_iconst X.c (v := (3 : Int32)) dX8_flicks_58 (by decide) ?_
    refine jr_dup2 X.c dX8_flicks_59 rfl rfl ?_
    obtain ⟨hi60, h⟩ := cr_gd_s h
    refine jr_iald X.c (by decide) ((cr_row_160 w) _) hi60 dX8_flicks_60 ?_
    refine jr_iconst X.c (v := (1 : Int32)) dX8_flicks_61 (by decide) ?_
    refine jr_iadd X.c dX8_flicks_62 ?_
    obtain ⟨hi63, h⟩ := cr_gd_s h
    obtain ⟨V63, eV63, h⟩ := cr_lt_s h
    refine jr_iast X.c (by decide) (cr_row_160 w) hi63 dX8_flicks_63 eV63 ?_
    refine jr_aload_n X.c dX8_flicks_64 rfl 0 rfl ?_
    refine jr_iconst X.c (v := (0 : Int32)) dX8_flicks_65 (by decide) ?_
    obtain ⟨V66, eV66, h⟩ := cr_lt_s h
    refine jr_put X.c (ci := 8) (C := RX8) (T := TX8) (N := 22) (k := 13) rfl cr_in8 tyX8 tyX8_ok nmX8 (by decide) (cr_row_159 w) rfl (Nat.le_of_ble_eq_true rfl) (by decide) rfl rfl rfl fl_X8_89 dX8_flicks_66 eV66 ?_
    refine jr_aload_n X.c dX8_flicks_69 rfl 0 rfl ?_
    refine jr_iconst X.c (v := (0 : Int32)) dX8_flicks_70 (by decide) ?_
    obtain ⟨V71, eV71, h⟩ := cr_lt_s h
    refine jr_put X.c (ci := 8) (C := RX8) (T := TX8) (N := 22) (k := 14) rfl cr_in8 tyX8 tyX8_ok nmX8 (by decide) (cr_row_159 w) rfl (Nat.le_of_ble_eq_true rfl) (by decide) rfl rfl rfl fl_X8_92 dX8_flicks_71 eV71 ?_
    refine jr_iconst X.c (v := (0 : Int32)) dX8_flicks_74 (by decide) ?_
    refine jr_istore X.c (lv2 := [(5, .int (0 : Int32)), (0, .ref (w.1 159)), (1, .int x1), (2, .int x2), (3, .int x3), (4, .int x4)]) dX8_flicks_75 (by decide) rfl ?_
    refine jr_iconst X.c (v := (0 : Int32)) dX8_flicks_77 (by decide) ?_
    refine jr_istore X.c (lv2 := [(6, .int (0 : Int32)), (5, .int (0 : Int32)), (0, .ref (w.1 159)), (1, .int x1), (2, .int x2), (3, .int x3), (4, .int x4)]) dX8_flicks_78 (by decide) rfl ?_
    obtain ⟨e80, he80, h⟩ := cr_bd_s h
    have kx198 : ∀ (u5_80_198 : Int32) (V_e80_198 : cr_Hp), e80 = (u5_80_198, V_e80_198) → cr_J w 8 p l e rm_X8_flicks s m args below meth c 0 0 (MQ below (cr_Qv w x) args s 0 0 (cr_A w)) V_e80_198 198 [(0, .ref (w.1 159)), (5, .int u5_80_198)] [] := by
      intro u5_80_198 V_e80_198 qx
      rw [qx] at h
      try simp only [cr_sm, cr_u2, cr_u3, cr_u4, cr_u5, cr_u6] at h
      refine jr_aload_n X.c dX8_flicks_198 rfl 0 rfl ?_
      refine jr_get X.c (ci := 8) (C := RX8) (T := TX8) (N := 22) (k := 0) rfl cr_in8 (by decide) ((cr_row_159 w) _) rfl (by decide) fl_X8_7 dX8_flicks_199 ?_
      refine jr_iconst X.c (v := (5 : Int32)) dX8_flicks_202 (by decide) ?_
      refine jr_dup2 X.c dX8_flicks_203 rfl rfl ?_
      obtain ⟨hi204, h⟩ := cr_gd_s h
      refine jr_iald X.c (by decide) ((cr_row_160 w) _) hi204 dX8_flicks_204 ?_
      refine jr_aload_n X.c dX8_flicks_205 rfl 0 rfl ?_
      refine jr_get X.c (ci := 8) (C := RX8) (T := TX8) (N := 22) (k := 13) rfl cr_in8 (by decide) ((cr_row_159 w) _) rfl (by decide) fl_X8_89 dX8_flicks_206 ?_
      refine jr_iadd X.c dX8_flicks_209 ?_
      obtain ⟨hi210, h⟩ := cr_gd_s h
      obtain ⟨V210, eV210, h⟩ := cr_lt_s h
      refine jr_iast X.c (by decide) (cr_row_160 w) hi210 dX8_flicks_210 eV210 ?_
      refine jr_iconst X.c (v := (0 : Int32)) dX8_flicks_211 (by decide) ?_
      refine jr_istore X.c (lv2 := [(6, .int (0 : Int32)), (0, .ref (w.1 159)), (5, .int u5_80_198)]) dX8_flicks_212 (by decide) rfl ?_
      obtain ⟨e214, he214, h⟩ := cr_bd_s h
      have kx283 : ∀ (V_e214_283 : cr_Hp), e214 = V_e214_283 → cr_J w 8 p l e rm_X8_flicks s m args below meth c 0 0 (MQ below (cr_Qv w x) args s 0 0 (cr_A w)) V_e214_283 283 [] [] := by
        intro V_e214_283 qx
        rw [qx] at h
        try simp only [cr_sm, cr_u2, cr_u3, cr_u4, cr_u5, cr_u6] at h
        cases h
        exact jr_vret X.c hr0 dX8_flicks_283
      refine jr_sub [1, 2, 0] rfl ?_
      refine cr_it_W (f := (fun (q : Int32 × cr_Hp) => f_X8_flicks_l214 u5_80_198 q.1 q.2)) (P := fun (q : Int32 × cr_Hp) => cr_J w 8 p l e rm_X8_flicks s m args below meth c 0 0 (MQ below (cr_Qv w x) args s 0 0 (cr_A w)) q.2 214 [(0, .ref (w.1 159)), (5, .int u5_80_198), (6, .int q.1)] []) (K := fun z => z = e214) (fun q x hx kl kr => ?_) cr_FU ((0 : Int32), V210) e214 he214 rfl
      obtain ⟨x6_214, V_l214⟩ := q
      exact t_X8_flicks_l214 X u5_80_198 x6_214 V_l214  x hx (fun x6_214 V_l214 ez => kl _ ez) (fun V_e214_283 ez => kx283 V_e214_283 ((kr _ ez).symm))
    refine jr_sub [2, 3, 1, 0] rfl ?_
    refine cr_it_W (f := (fun (q : Int32 × Int32 × cr_Hp) => f_X8_flicks_l80 x1 q.1 q.2.1 q.2.2)) (P := fun (q : Int32 × Int32 × cr_Hp) => cr_J w 8 p l e rm_X8_flicks s m args below meth c 0 0 (MQ below (cr_Qv w x) args s 0 0 (cr_A w)) q.2.2 80 [(0, .ref (w.1 159)), (1, .int x1), (5, .int q.1), (6, .int q.2.1)] []) (K := fun z => z = e80) (fun q x hx kl kr => ?_) cr_FU ((0 : Int32), (0 : Int32), V71) e80 he80 rfl
    obtain ⟨x5_80, x6_80, V_l80⟩ := q
    exact t_X8_flicks_l80 X x1 x5_80 x6_80 V_l80  x hx (fun x5_80 x6_80 V_l80 ez => kl _ ez) (fun u5_80_198 V_e80_198 ez => kx198 u5_80_198 V_e80_198 ((kr _ ez).symm))
  refine jr_sub [1, 2, 3, 4, 5, 0] rfl ?_
  refine cr_it_W (f := (fun (q : Int32 × cr_Hp) => f_X8_flicks_l3 x1 x2 x3 x4 q.1 q.2)) (P := fun (q : Int32 × cr_Hp) => cr_J w 8 p l e rm_X8_flicks s m args below meth c 0 0 (MQ below (cr_Qv w x) args s 0 0 (cr_A w)) q.2 3 [(0, .ref (w.1 159)), (1, .int x1), (2, .int x2), (3, .int x3), (4, .int x4), (5, .int q.1)] []) (K := fun z => z = e3) (fun q x hx kl kr => ?_) cr_FU ((0 : Int32), V) e3 he3 rfl
  obtain ⟨x5_3, V_l3⟩ := q
  exact t_X8_flicks_l3 X x1 x2 x3 x4 x5_3 V_l3  x hx (fun x5_3 V_l3 ez => kl _ ez) (fun V_e3_46 ez => kx46 V_e3_46 ((kr _ ez).symm))
set_option maxRecDepth 100000 in
set_option maxHeartbeats 4000000 in
theorem m_X8_flicks (l : Launch) (w : cr_Wd) (V : cr_Hp) (x1 : Int32) (x2 : Int32) (x3 : Int32) (x4 : Int32)  (x : cr_Hp) (h : f_X8_flicks x1 x2 x3 x4 V = some x) : Met l yX8_flicks (cr_wds yX8_flicks cX8_flicks 8 none) rm_X8_flicks (cr_Pc w V [.ref (w.1 159), .int x1, .int x2, .int x3, .int x4]) (cr_Qv w x) 0 0 (cr_A w) := by
  refine cr_met (own := RX8) (lv := [(0, .ref (w.1 159)), (1, .int x1), (2, .int x2), (3, .int x3), (4, .int x4)]) (by decide +kernel) rfl (Nat.le_of_ble_eq_true rfl) rfl (fun p e s m args below meth c X hr0 => ?_)
  exact t_X8_flicks X x1 x2 x3 x4 V  hr0 x h
abbrev rm_X8_goesOn : Room := { frames := 0, cells := 0, slots := 0, locals := 0 }
theorem hd_X8_goesOn : yX8_goesOn.cls = RX8 ∧ yX8_goesOn.cls ≠ "java/lang/invoke/MethodHandle" ∧ yX8_goesOn.cls ≠ "java/lang/invoke/VarHandle" ∧ (parseMethodDescriptor yX8_goesOn.desc).map (fun d => d.parameters.length) = some 0 := by decide +kernel
def f_X8_goesOn  (V : cr_Hp) : Option (cr_Hp) :=
  cr_gd (cr_ix (2 : Int32) 80) (cr_gd (cr_ix (2 : Int32) 80) (cr_lt (cr_pt V 160 (2 : Int32).toNatClampNeg (((V 160 (2 : Int32).toNatClampNeg) + (1 : Int32)) - ((V 160 (2 : Int32).toNatClampNeg) + (1 : Int32)) / (3 : Int32) * (3 : Int32))) (fun (V15 : cr_Hp) => some V15)))
set_option maxRecDepth 100000 in
set_option maxHeartbeats 4000000 in
theorem t_X8_goesOn {p : Program} {l : Launch} {e : Env} {s : State} {m : MethodId} {args : Array Value} {below : List Frame} {meth : Method} {c : Code} {w : cr_Wd} (X : cr_Cx w RX8 (Cond.code yX8_goesOn cX8_goesOn 1 none) cX8_goesOn 1 p s m args meth c)  (V : cr_Hp)  (hr0 : meth.sig.returnType = none) (x : cr_Hp) (h : f_X8_goesOn  V = some x) : cr_J w 1 p l e rm_X8_goesOn s m args below meth c 0 0 (MQ below (cr_Qv w x) args s 0 0 (cr_A w)) V 0 [(0, .ref (w.1 159))] [] := by
  unfold f_X8_goesOn at h
  refine jr_aload_n X.c dX8_goesOn_0 rfl 0 rfl ?_
  refine jr_get X.c (ci := 8) (C := RX8) (T := TX8) (N := 22) (k := 0) rfl cr_in8 (by decide) ((cr_row_159 w) _) rfl (by decide) fl_X8_7 dX8_goesOn_1 ?_
  refine jr_iconst X.c (v := (2 : Int32)) dX8_goesOn_4 (by decide) ?_
  refine jr_aload_n X.c dX8_goesOn_5 rfl 0 rfl ?_
  refine jr_get X.c (ci := 8) (C := RX8) (T := TX8) (N := 22) (k := 0) rfl cr_in8 (by decide) ((cr_row_159 w) _) rfl (by decide) fl_X8_7 dX8_goesOn_6 ?_
  refine jr_iconst X.c (v := (2 : Int32)) dX8_goesOn_9 (by decide) ?_
  obtain ⟨hi10, h⟩ := cr_gd_s h
  refine jr_iald X.c (by decide) ((cr_row_160 w) _) hi10 dX8_goesOn_10 ?_
  refine jr_iconst X.c (v := (1 : Int32)) dX8_goesOn_11 (by decide) ?_
  refine jr_iadd X.c dX8_goesOn_12 ?_
  refine jr_iconst X.c (v := (3 : Int32)) dX8_goesOn_13 (by decide) ?_
  refine jr_irem X.c dX8_goesOn_14 (by decide) ?_
  obtain ⟨hi15, h⟩ := cr_gd_s h
  obtain ⟨V15, eV15, h⟩ := cr_lt_s h
  refine jr_iast X.c (by decide) (cr_row_160 w) hi15 dX8_goesOn_15 eV15 ?_
  cases h
  exact jr_vret X.c hr0 dX8_goesOn_16
set_option maxRecDepth 100000 in
set_option maxHeartbeats 4000000 in
theorem m_X8_goesOn (l : Launch) (w : cr_Wd) (V : cr_Hp)   (x : cr_Hp) (h : f_X8_goesOn  V = some x) : Met l yX8_goesOn (cr_wds yX8_goesOn cX8_goesOn 1 none) rm_X8_goesOn (cr_Pc w V [.ref (w.1 159)]) (cr_Qv w x) 0 0 (cr_A w) := by
  refine cr_met (own := RX8) (lv := [(0, .ref (w.1 159))]) (by decide +kernel) rfl (Nat.le_of_ble_eq_true rfl) rfl (fun p e s m args below meth c X hr0 => ?_)
  exact t_X8_goesOn X  V  hr0 x h
abbrev rm_X8_flick : Room := { frames := 6, cells := 0, slots := 0, locals := 150 }
theorem hd_X8_flick : yX8_flick.cls = RX8 ∧ yX8_flick.cls ≠ "java/lang/invoke/MethodHandle" ∧ yX8_flick.cls ≠ "java/lang/invoke/VarHandle" ∧ (parseMethodDescriptor yX8_flick.desc).map (fun d => d.parameters.length) = some 3 := by decide +kernel
def f_X8_flick (x1 : Int32) (x2 : Int32) (x3 : Int32) (V : cr_Hp) : Option (Int32 × cr_Hp) :=
  cr_bd (f_X8_isMarble x1 V) (fun (r2 : Int32) => if r2 = 0 then (some ((-1001 : Int32), V)) else (cr_bd (f_X8_isFlick x2 x3) (fun (r14 : Int32) => if r14 = 0 then (some ((-1002 : Int32), V)) else (cr_bd (f_X8_isThere x1 V) (fun (r26 : Int32) => if r26 = 0 then (some ((-1003 : Int32), V)) else (cr_bd (f_X8_part x1 (3 : Int32) V) (fun (r35 : Int32) => cr_gd (cr_ix (2 : Int32) 80) (if r35 = (V 160 (2 : Int32).toNatClampNeg) then (cr_bd (f_X8_record  V) (fun (V52 : cr_Hp) => cr_gd (cr_ix (2 : Int32) 80) (cr_bd (f_X8_flicks (V52 160 (2 : Int32).toNatClampNeg) x1 x2 x3 V52) (fun (V65 : cr_Hp) => if (V65 159 13) = 0 then (cr_bd (f_X8_goesOn  V65) (fun (V76 : cr_Hp) => some ((V76 159 13), V76))) else (some ((V65 159 13), V65)))))) else (some ((-1003 : Int32), V))))))))))
set_option maxRecDepth 100000 in
set_option maxHeartbeats 4000000 in
theorem t_X8_flick {p : Program} {l : Launch} {e : Env} {s : State} {m : MethodId} {args : Array Value} {below : List Frame} {meth : Method} {c : Code} {w : cr_Wd} (X : cr_Cx w RX8 (Cond.code yX8_flick cX8_flick 4 (some .int)) cX8_flick 4 p s m args meth c) (x1 : Int32) (x2 : Int32) (x3 : Int32) (V : cr_Hp)  (hr0 : meth.sig.returnType = (some .int)) (x : Int32 × cr_Hp) (h : f_X8_flick x1 x2 x3 V = some x) : cr_J w 4 p l e rm_X8_flick s m args below meth c 0 0 (MQ below (cr_Qi w x.2 x.1) args s 0 0 (cr_A w)) V 0 [(0, .ref (w.1 159)), (1, .int x1), (2, .int x2), (3, .int x3)] [] := by
  unfold f_X8_flick at h
  refine jr_aload_n X.c dX8_flick_0 rfl 0 rfl ?_
  refine jr_iload_n X.c dX8_flick_1 rfl 1 rfl ?_
  obtain ⟨r2, hr2, h⟩ := cr_bd_s h
  refine jc_Vi X.c (As := [.int x1]) (V1 := V) (C := RX8) (T := TX8) (N := 22) (ci := 8) 1 (m_X8_isMarble l w V x1  r2 hr2) ⟨rfl, rfl⟩ ml_X8_95 im_X8_isMarble sl_X8_isMarble in_X8 cd_X8_isMarble hd_X8_isMarble ⟨Nat.le_of_ble_eq_true rfl, Nat.le_of_ble_eq_true rfl⟩ ⟨Nat.le_of_ble_eq_true rfl, Nat.le_of_ble_eq_true rfl⟩ rfl (Nat.le_of_ble_eq_true rfl) (by decide) ((cr_row_159 w) _) rfl rfl dX8_flick_2 ?_
  refine jr_if_ne X.c 12 dX8_flick_5 (by decide) (fun q5 => ?_) (fun q5 => ?_)
  · replace h := cr_if_f q5 h
    refine jr_iload_n X.c dX8_flick_12 rfl 2 rfl ?_
    refine jr_iload_n X.c dX8_flick_13 rfl 3 rfl ?_
    obtain ⟨r14, hr14, h⟩ := cr_bd_s h
    refine jc_Si X.c (As := [.int x2, .int x3]) (V1 := V) 2 (m_X8_isFlick l w V x2 x3  r14 hr14) ⟨rfl, rfl⟩ ml_X8_98 st_X8_isFlick in_X8 cd_X8_isFlick hd_X8_isFlick ⟨Nat.le_of_ble_eq_true rfl, Nat.le_of_ble_eq_true rfl⟩ ⟨Nat.le_of_ble_eq_true rfl, Nat.le_of_ble_eq_true rfl⟩ rfl (Nat.le_of_ble_eq_true rfl) rfl dX8_flick_14 ?_
    refine jr_if_ne X.c 24 dX8_flick_17 (by decide) (fun q17 => ?_) (fun q17 => ?_)
    · replace h := cr_if_f q17 h
      refine jr_aload_n X.c dX8_flick_24 rfl 0 rfl ?_
      refine jr_iload_n X.c dX8_flick_25 rfl 1 rfl ?_
      obtain ⟨r26, hr26, h⟩ := cr_bd_s h
      refine jc_Vi X.c (As := [.int x1]) (V1 := V) (C := RX8) (T := TX8) (N := 22) (ci := 8) 1 (m_X8_isThere l w V x1  r26 hr26) ⟨rfl, rfl⟩ ml_X8_56 im_X8_isThere sl_X8_isThere in_X8 cd_X8_isThere hd_X8_isThere ⟨Nat.le_of_ble_eq_true rfl, Nat.le_of_ble_eq_true rfl⟩ ⟨Nat.le_of_ble_eq_true rfl, Nat.le_of_ble_eq_true rfl⟩ rfl (Nat.le_of_ble_eq_true rfl) (by decide) ((cr_row_159 w) _) rfl rfl dX8_flick_26 ?_
      refine jr_if_eq X.c 47 dX8_flick_29 (by decide) (fun q29 => ?_) (fun q29 => ?_)
      · replace h := cr_if_t q29 h
        refine jr_sipush X.c (v := (-1003 : Int32)) dX8_flick_47 (by decide) ?_
        cases h
        exact jr_iret X.c hr0 dX8_flick_50
      · replace h := cr_if_f q29 h
        refine jr_aload_n X.c dX8_flick_32 rfl 0 rfl ?_
        refine jr_iload_n X.c dX8_flick_33 rfl 1 rfl ?_
        refine jr_iconst X.c (v := (3 : Int32)) dX8_flick_34 (by decide) ?_
        obtain ⟨r35, hr35, h⟩ := cr_bd_s h
        refine jc_Vi X.c (As := [.int x1, .int (3 : Int32)]) (V1 := V) (C := RX8) (T := TX8) (N := 22) (ci := 8) 2 (m_X8_part l w V x1 (3 : Int32)  r35 hr35) ⟨rfl, rfl⟩ ml_X8_43 im_X8_part sl_X8_part in_X8 cd_X8_part hd_X8_part ⟨Nat.le_of_ble_eq_true rfl, Nat.le_of_ble_eq_true rfl⟩ ⟨Nat.le_of_ble_eq_true rfl, Nat.le_of_ble_eq_true rfl⟩ rfl (Nat.le_of_ble_eq_true rfl) (by decide) ((cr_row_159 w) _) rfl rfl dX8_flick_35 ?_
        refine jr_aload_n X.c dX8_flick_38 rfl 0 rfl ?_
        refine jr_get X.c (ci := 8) (C := RX8) (T := TX8) (N := 22) (k := 0) rfl cr_in8 (by decide) ((cr_row_159 w) _) rfl (by decide) fl_X8_7 dX8_flick_39 ?_
        refine jr_iconst X.c (v := (2 : Int32)) dX8_flick_42 (by decide) ?_
        obtain ⟨hi43, h⟩ := cr_gd_s h
        refine jr_iald X.c (by decide) ((cr_row_160 w) _) hi43 dX8_flick_43 ?_
        refine jr_icmp_eq X.c 51 dX8_flick_44 (by decide) (fun q44 => ?_) (fun q44 => ?_)
        · replace h := cr_if_t q44 h
          refine jr_aload_n X.c dX8_flick_51 rfl 0 rfl ?_
          obtain ⟨V52, hr52, h⟩ := cr_bd_s h
          refine jc_Vv X.c (As := []) (V1 := V52) (C := RX8) (T := TX8) (N := 22) (ci := 8) 0 (m_X8_record l w V   V52 hr52) ⟨rfl, rfl⟩ ml_X8_102 im_X8_record sl_X8_record in_X8 cd_X8_record hd_X8_record ⟨Nat.le_of_ble_eq_true rfl, Nat.le_of_ble_eq_true rfl⟩ ⟨Nat.le_of_ble_eq_true rfl, Nat.le_of_ble_eq_true rfl⟩ rfl (Nat.le_of_ble_eq_true rfl) (by decide) ((cr_row_159 w) _) rfl rfl dX8_flick_52 ?_
          refine jr_aload_n X.c dX8_flick_55 rfl 0 rfl ?_
          refine jr_aload_n X.c dX8_flick_56 rfl 0 rfl ?_
          refine jr_get X.c (ci := 8) (C := RX8) (T := TX8) (N := 22) (k := 0) rfl cr_in8 (by decide) ((cr_row_159 w) _) rfl (by decide) fl_X8_7 dX8_flick_57 ?_
          refine jr_iconst X.c (v := (2 : Int32)) dX8_flick_60 (by decide) ?_
          obtain ⟨hi61, h⟩ := cr_gd_s h
          refine jr_iald X.c (by decide) ((cr_row_160 w) _) hi61 dX8_flick_61 ?_
          refine jr_iload_n X.c dX8_flick_62 rfl 1 rfl ?_
          refine jr_iload_n X.c dX8_flick_63 rfl 2 rfl ?_
          refine jr_iload_n X.c dX8_flick_64 rfl 3 rfl ?_
          obtain ⟨V65, hr65, h⟩ := cr_bd_s h
          refine jc_Vv X.c (As := [.int (V52 160 (2 : Int32).toNatClampNeg), .int x1, .int x2, .int x3]) (V1 := V65) (C := RX8) (T := TX8) (N := 22) (ci := 8) 4 (m_X8_flicks l w V52 (V52 160 (2 : Int32).toNatClampNeg) x1 x2 x3  V65 hr65) ⟨rfl, rfl⟩ ml_X8_105 im_X8_flicks sl_X8_flicks in_X8 cd_X8_flicks hd_X8_flicks ⟨Nat.le_of_ble_eq_true rfl, Nat.le_of_ble_eq_true rfl⟩ ⟨Nat.le_of_ble_eq_true rfl, Nat.le_of_ble_eq_true rfl⟩ rfl (Nat.le_of_ble_eq_true rfl) (by decide) ((cr_row_159 w) _) rfl rfl dX8_flick_65 ?_
          refine jr_aload_n X.c dX8_flick_68 rfl 0 rfl ?_
          refine jr_get X.c (ci := 8) (C := RX8) (T := TX8) (N := 22) (k := 13) rfl cr_in8 (by decide) ((cr_row_159 w) _) rfl (by decide) fl_X8_89 dX8_flick_69 ?_
          refine jr_if_ne X.c 79 dX8_flick_72 (by decide) (fun q72 => ?_) (fun q72 => ?_)
          · replace h := cr_if_f q72 h
            refine jr_aload_n X.c dX8_flick_79 rfl 0 rfl ?_
            refine jr_get X.c (ci := 8) (C := RX8) (T := TX8) (N := 22) (k := 13) rfl cr_in8 (by decide) ((cr_row_159 w) _) rfl (by decide) fl_X8_89 dX8_flick_80 ?_
            cases h
            exact jr_iret X.c hr0 dX8_flick_83
          · replace h := cr_if_t q72 h
            refine jr_aload_n X.c dX8_flick_75 rfl 0 rfl ?_
            obtain ⟨V76, hr76, h⟩ := cr_bd_s h
            refine jc_Vv X.c (As := []) (V1 := V76) (C := RX8) (T := TX8) (N := 22) (ci := 8) 0 (m_X8_goesOn l w V65   V76 hr76) ⟨rfl, rfl⟩ ml_X8_109 im_X8_goesOn sl_X8_goesOn in_X8 cd_X8_goesOn hd_X8_goesOn ⟨Nat.le_of_ble_eq_true rfl, Nat.le_of_ble_eq_true rfl⟩ ⟨Nat.le_of_ble_eq_true rfl, Nat.le_of_ble_eq_true rfl⟩ rfl (Nat.le_of_ble_eq_true rfl) (by decide) ((cr_row_159 w) _) rfl rfl dX8_flick_76 ?_
            refine jr_aload_n X.c dX8_flick_79 rfl 0 rfl ?_
            refine jr_get X.c (ci := 8) (C := RX8) (T := TX8) (N := 22) (k := 13) rfl cr_in8 (by decide) ((cr_row_159 w) _) rfl (by decide) fl_X8_89 dX8_flick_80 ?_
            cases h
            exact jr_iret X.c hr0 dX8_flick_83
        · replace h := cr_if_f q44 h
          refine jr_sipush X.c (v := (-1003 : Int32)) dX8_flick_47 (by decide) ?_
          cases h
          exact jr_iret X.c hr0 dX8_flick_50
    · replace h := cr_if_t q17 h
      refine jr_sipush X.c (v := (-1002 : Int32)) dX8_flick_20 (by decide) ?_
      cases h
      exact jr_iret X.c hr0 dX8_flick_23
  · replace h := cr_if_t q5 h
    refine jr_sipush X.c (v := (-1001 : Int32)) dX8_flick_8 (by decide) ?_
    cases h
    exact jr_iret X.c hr0 dX8_flick_11
set_option maxRecDepth 100000 in
set_option maxHeartbeats 4000000 in
theorem m_X8_flick (l : Launch) (w : cr_Wd) (V : cr_Hp) (x1 : Int32) (x2 : Int32) (x3 : Int32)  (x : Int32 × cr_Hp) (h : f_X8_flick x1 x2 x3 V = some x) : Met l yX8_flick (cr_wds yX8_flick cX8_flick 4 (some .int)) rm_X8_flick (cr_Pc w V [.ref (w.1 159), .int x1, .int x2, .int x3]) (cr_Qi w x.2 x.1) 0 0 (cr_A w) := by
  refine cr_met (own := RX8) (lv := [(0, .ref (w.1 159)), (1, .int x1), (2, .int x2), (3, .int x3)]) (by decide +kernel) rfl (Nat.le_of_ble_eq_true rfl) rfl (fun p e s m args below meth c X hr0 => ?_)
  exact t_X8_flick X x1 x2 x3 V  hr0 x h
abbrev rm_X8_pass : Room := { frames := 2, cells := 0, slots := 0, locals := 45 }
theorem hd_X8_pass : yX8_pass.cls = RX8 ∧ yX8_pass.cls ≠ "java/lang/invoke/MethodHandle" ∧ yX8_pass.cls ≠ "java/lang/invoke/VarHandle" ∧ (parseMethodDescriptor yX8_pass.desc).map (fun d => d.parameters.length) = some 0 := by decide +kernel
def f_X8_pass  (V : cr_Hp) : Option (Int32 × cr_Hp) :=
  cr_bd (f_X8_record  V) (fun (V1 : cr_Hp) => cr_bd (f_X8_goesOn  V1) (fun (V5 : cr_Hp) => cr_gd (cr_ix (2 : Int32) 80) (some ((V5 160 (2 : Int32).toNatClampNeg), V5))))
set_option maxRecDepth 100000 in
set_option maxHeartbeats 4000000 in
theorem t_X8_pass {p : Program} {l : Launch} {e : Env} {s : State} {m : MethodId} {args : Array Value} {below : List Frame} {meth : Method} {c : Code} {w : cr_Wd} (X : cr_Cx w RX8 (Cond.code yX8_pass cX8_pass 1 (some .int)) cX8_pass 1 p s m args meth c)  (V : cr_Hp)  (hr0 : meth.sig.returnType = (some .int)) (x : Int32 × cr_Hp) (h : f_X8_pass  V = some x) : cr_J w 1 p l e rm_X8_pass s m args below meth c 0 0 (MQ below (cr_Qi w x.2 x.1) args s 0 0 (cr_A w)) V 0 [(0, .ref (w.1 159))] [] := by
  unfold f_X8_pass at h
  refine jr_aload_n X.c dX8_pass_0 rfl 0 rfl ?_
  obtain ⟨V1, hr1, h⟩ := cr_bd_s h
  refine jc_Vv X.c (As := []) (V1 := V1) (C := RX8) (T := TX8) (N := 22) (ci := 8) 0 (m_X8_record l w V   V1 hr1) ⟨rfl, rfl⟩ ml_X8_102 im_X8_record sl_X8_record in_X8 cd_X8_record hd_X8_record ⟨Nat.le_of_ble_eq_true rfl, Nat.le_of_ble_eq_true rfl⟩ ⟨Nat.le_of_ble_eq_true rfl, Nat.le_of_ble_eq_true rfl⟩ rfl (Nat.le_of_ble_eq_true rfl) (by decide) ((cr_row_159 w) _) rfl rfl dX8_pass_1 ?_
  refine jr_aload_n X.c dX8_pass_4 rfl 0 rfl ?_
  obtain ⟨V5, hr5, h⟩ := cr_bd_s h
  refine jc_Vv X.c (As := []) (V1 := V5) (C := RX8) (T := TX8) (N := 22) (ci := 8) 0 (m_X8_goesOn l w V1   V5 hr5) ⟨rfl, rfl⟩ ml_X8_109 im_X8_goesOn sl_X8_goesOn in_X8 cd_X8_goesOn hd_X8_goesOn ⟨Nat.le_of_ble_eq_true rfl, Nat.le_of_ble_eq_true rfl⟩ ⟨Nat.le_of_ble_eq_true rfl, Nat.le_of_ble_eq_true rfl⟩ rfl (Nat.le_of_ble_eq_true rfl) (by decide) ((cr_row_159 w) _) rfl rfl dX8_pass_5 ?_
  refine jr_aload_n X.c dX8_pass_8 rfl 0 rfl ?_
  refine jr_get X.c (ci := 8) (C := RX8) (T := TX8) (N := 22) (k := 0) rfl cr_in8 (by decide) ((cr_row_159 w) _) rfl (by decide) fl_X8_7 dX8_pass_9 ?_
  refine jr_iconst X.c (v := (2 : Int32)) dX8_pass_12 (by decide) ?_
  obtain ⟨hi13, h⟩ := cr_gd_s h
  refine jr_iald X.c (by decide) ((cr_row_160 w) _) hi13 dX8_pass_13 ?_
  cases h
  exact jr_iret X.c hr0 dX8_pass_14
set_option maxRecDepth 100000 in
set_option maxHeartbeats 4000000 in
theorem m_X8_pass (l : Launch) (w : cr_Wd) (V : cr_Hp)   (x : Int32 × cr_Hp) (h : f_X8_pass  V = some x) : Met l yX8_pass (cr_wds yX8_pass cX8_pass 1 (some .int)) rm_X8_pass (cr_Pc w V [.ref (w.1 159)]) (cr_Qi w x.2 x.1) 0 0 (cr_A w) := by
  refine cr_met (own := RX8) (lv := [(0, .ref (w.1 159))]) (by decide +kernel) rfl (Nat.le_of_ble_eq_true rfl) rfl (fun p e s m args below meth c X hr0 => ?_)
  exact t_X8_pass X  V  hr0 x h
abbrev rm_X8_count : Room := { frames := 1, cells := 0, slots := 0, locals := 22 }
theorem hd_X8_count : yX8_count.cls = RX8 ∧ yX8_count.cls ≠ "java/lang/invoke/MethodHandle" ∧ yX8_count.cls ≠ "java/lang/invoke/VarHandle" ∧ (parseMethodDescriptor yX8_count.desc).map (fun d => d.parameters.length) = some 1 := by decide +kernel
def f_X8_count (x1 : Int32) (V : cr_Hp) : Option (Int32) :=
  cr_bd (f_X8_within x1 (0 : Int32) (7 : Int32)) (fun (r4 : Int32) => if r4 = 0 then (some (-1002 : Int32)) else (cr_gd (cr_ix x1 80) (some (V 160 x1.toNatClampNeg))))
set_option maxRecDepth 100000 in
set_option maxHeartbeats 4000000 in
theorem t_X8_count {p : Program} {l : Launch} {e : Env} {s : State} {m : MethodId} {args : Array Value} {below : List Frame} {meth : Method} {c : Code} {w : cr_Wd} (X : cr_Cx w RX8 (Cond.code yX8_count cX8_count 2 (some .int)) cX8_count 2 p s m args meth c) (x1 : Int32) (V : cr_Hp)  (hr0 : meth.sig.returnType = (some .int)) (x : Int32) (h : f_X8_count x1 V = some x) : cr_J w 2 p l e rm_X8_count s m args below meth c 0 0 (MQ below (cr_Qi w V x) args s 0 0 (cr_A w)) V 0 [(0, .ref (w.1 159)), (1, .int x1)] [] := by
  unfold f_X8_count at h
  refine jr_iload_n X.c dX8_count_0 rfl 1 rfl ?_
  refine jr_iconst X.c (v := (0 : Int32)) dX8_count_1 (by decide) ?_
  refine jr_bipush X.c (v := (7 : Int32)) dX8_count_2 (by decide) ?_
  obtain ⟨r4, hr4, h⟩ := cr_bd_s h
  refine jc_Si X.c (As := [.int x1, .int (0 : Int32), .int (7 : Int32)]) (V1 := V) 3 (m_X8_within l w V x1 (0 : Int32) (7 : Int32)  r4 hr4) ⟨rfl, rfl⟩ ml_X8_39 st_X8_within in_X8 cd_X8_within hd_X8_within ⟨Nat.le_of_ble_eq_true rfl, Nat.le_of_ble_eq_true rfl⟩ ⟨Nat.le_of_ble_eq_true rfl, Nat.le_of_ble_eq_true rfl⟩ rfl (Nat.le_of_ble_eq_true rfl) rfl dX8_count_4 ?_
  refine jr_if_eq X.c 19 dX8_count_7 (by decide) (fun q7 => ?_) (fun q7 => ?_)
  · replace h := cr_if_t q7 h
    refine jr_sipush X.c (v := (-1002 : Int32)) dX8_count_19 (by decide) ?_
    cases h
    exact jr_iret X.c hr0 dX8_count_22
  · replace h := cr_if_f q7 h
    refine jr_aload_n X.c dX8_count_10 rfl 0 rfl ?_
    refine jr_get X.c (ci := 8) (C := RX8) (T := TX8) (N := 22) (k := 0) rfl cr_in8 (by decide) ((cr_row_159 w) _) rfl (by decide) fl_X8_7 dX8_count_11 ?_
    refine jr_iload_n X.c dX8_count_14 rfl 1 rfl ?_
    obtain ⟨hi15, h⟩ := cr_gd_s h
    refine jr_iald X.c (by decide) ((cr_row_160 w) _) hi15 dX8_count_15 ?_
    refine jr_goto X.c 22 dX8_count_16 (by decide) ?_
    cases h
    exact jr_iret X.c hr0 dX8_count_22
set_option maxRecDepth 100000 in
set_option maxHeartbeats 4000000 in
theorem m_X8_count (l : Launch) (w : cr_Wd) (V : cr_Hp) (x1 : Int32)  (x : Int32) (h : f_X8_count x1 V = some x) : Met l yX8_count (cr_wds yX8_count cX8_count 2 (some .int)) rm_X8_count (cr_Pc w V [.ref (w.1 159), .int x1]) (cr_Qi w V x) 0 0 (cr_A w) := by
  refine cr_met (own := RX8) (lv := [(0, .ref (w.1 159)), (1, .int x1)]) (by decide +kernel) rfl (Nat.le_of_ble_eq_true rfl) rfl (fun p e s m args below meth c X hr0 => ?_)
  exact t_X8_count X x1 V  hr0 x h
abbrev rm_X8_ofMarble : Room := { frames := 4, cells := 0, slots := 0, locals := 92 }
theorem hd_X8_ofMarble : yX8_ofMarble.cls = RX8 ∧ yX8_ofMarble.cls ≠ "java/lang/invoke/MethodHandle" ∧ yX8_ofMarble.cls ≠ "java/lang/invoke/VarHandle" ∧ (parseMethodDescriptor yX8_ofMarble.desc).map (fun d => d.parameters.length) = some 2 := by decide +kernel
def f_X8_ofMarble (x1 : Int32) (x2 : Int32) (V : cr_Hp) : Option (Int32) :=
  if x2 = (0 : Int32) then (cr_bd (f_X8_isThere x1 V) (fun (r38 : Int32) => if r38 = 0 then (some (-1006 : Int32)) else (cr_bd (f_X8_part x1 x2 V) (fun (r47 : Int32) => some r47)))) else (if x2 = (1 : Int32) then (cr_bd (f_X8_isThere x1 V) (fun (r38 : Int32) => if r38 = 0 then (some (-1006 : Int32)) else (cr_bd (f_X8_part x1 x2 V) (fun (r47 : Int32) => some r47)))) else (if x2 = (5 : Int32) then (cr_bd (f_X8_isThere x1 V) (fun (r59 : Int32) => if r59 = 0 then (some (-1006 : Int32)) else (cr_bd (f_X8_ringsOfMarble x1 V) (fun (r67 : Int32) => some r67)))) else (cr_bd (f_X8_part x1 x2 V) (fun (r80 : Int32) => some r80))))
set_option maxRecDepth 100000 in
set_option maxHeartbeats 4000000 in
theorem t_X8_ofMarble {p : Program} {l : Launch} {e : Env} {s : State} {m : MethodId} {args : Array Value} {below : List Frame} {meth : Method} {c : Code} {w : cr_Wd} (X : cr_Cx w RX8 (Cond.code yX8_ofMarble cX8_ofMarble 3 (some .int)) cX8_ofMarble 3 p s m args meth c) (x1 : Int32) (x2 : Int32) (V : cr_Hp)  (hr0 : meth.sig.returnType = (some .int)) (x : Int32) (h : f_X8_ofMarble x1 x2 V = some x) : cr_J w 3 p l e rm_X8_ofMarble s m args below meth c 0 0 (MQ below (cr_Qi w V x) args s 0 0 (cr_A w)) V 0 [(0, .ref (w.1 159)), (1, .int x1), (2, .int x2)] [] := by
  unfold f_X8_ofMarble at h
  refine jr_iload_n X.c dX8_ofMarble_0 rfl 2 rfl ?_
  by_cases q1_0 : x2 = (0 : Int32)
  · replace h := cr_if_t q1_0 h
    refine jr_look X.c 36 dX8_ofMarble_1 (by decide) (off := 35) (by rw [q1_0]; rfl) (by decide) ?_
    refine jr_aload_n X.c dX8_ofMarble_36 rfl 0 rfl ?_
    refine jr_iload_n X.c dX8_ofMarble_37 rfl 1 rfl ?_
    obtain ⟨r38, hr38, h⟩ := cr_bd_s h
    refine jc_Vi X.c (As := [.int x1]) (V1 := V) (C := RX8) (T := TX8) (N := 22) (ci := 8) 1 (m_X8_isThere l w V x1  r38 hr38) ⟨rfl, rfl⟩ ml_X8_56 im_X8_isThere sl_X8_isThere in_X8 cd_X8_isThere hd_X8_isThere ⟨Nat.le_of_ble_eq_true rfl, Nat.le_of_ble_eq_true rfl⟩ ⟨Nat.le_of_ble_eq_true rfl, Nat.le_of_ble_eq_true rfl⟩ rfl (Nat.le_of_ble_eq_true rfl) (by decide) ((cr_row_159 w) _) rfl rfl dX8_ofMarble_38 ?_
    refine jr_if_eq X.c 53 dX8_ofMarble_41 (by decide) (fun q41 => ?_) (fun q41 => ?_)
    · replace h := cr_if_t q41 h
      refine jr_sipush X.c (v := (-1006 : Int32)) dX8_ofMarble_53 (by decide) ?_
      cases h
      exact jr_iret X.c hr0 dX8_ofMarble_56
    · replace h := cr_if_f q41 h
      refine jr_aload_n X.c dX8_ofMarble_44 rfl 0 rfl ?_
      refine jr_iload_n X.c dX8_ofMarble_45 rfl 1 rfl ?_
      refine jr_iload_n X.c dX8_ofMarble_46 rfl 2 rfl ?_
      obtain ⟨r47, hr47, h⟩ := cr_bd_s h
      refine jc_Vi X.c (As := [.int x1, .int x2]) (V1 := V) (C := RX8) (T := TX8) (N := 22) (ci := 8) 2 (m_X8_part l w V x1 x2  r47 hr47) ⟨rfl, rfl⟩ ml_X8_43 im_X8_part sl_X8_part in_X8 cd_X8_part hd_X8_part ⟨Nat.le_of_ble_eq_true rfl, Nat.le_of_ble_eq_true rfl⟩ ⟨Nat.le_of_ble_eq_true rfl, Nat.le_of_ble_eq_true rfl⟩ rfl (Nat.le_of_ble_eq_true rfl) (by decide) ((cr_row_159 w) _) rfl rfl dX8_ofMarble_47 ?_
      refine jr_goto X.c 56 dX8_ofMarble_50 (by decide) ?_
      cases h
      exact jr_iret X.c hr0 dX8_ofMarble_56
  replace h := cr_if_f q1_0 h
  by_cases q1_1 : x2 = (1 : Int32)
  · replace h := cr_if_t q1_1 h
    refine jr_look X.c 36 dX8_ofMarble_1 (by decide) (off := 35) (by rw [q1_1]; rfl) (by decide) ?_
    refine jr_aload_n X.c dX8_ofMarble_36 rfl 0 rfl ?_
    refine jr_iload_n X.c dX8_ofMarble_37 rfl 1 rfl ?_
    obtain ⟨r38, hr38, h⟩ := cr_bd_s h
    refine jc_Vi X.c (As := [.int x1]) (V1 := V) (C := RX8) (T := TX8) (N := 22) (ci := 8) 1 (m_X8_isThere l w V x1  r38 hr38) ⟨rfl, rfl⟩ ml_X8_56 im_X8_isThere sl_X8_isThere in_X8 cd_X8_isThere hd_X8_isThere ⟨Nat.le_of_ble_eq_true rfl, Nat.le_of_ble_eq_true rfl⟩ ⟨Nat.le_of_ble_eq_true rfl, Nat.le_of_ble_eq_true rfl⟩ rfl (Nat.le_of_ble_eq_true rfl) (by decide) ((cr_row_159 w) _) rfl rfl dX8_ofMarble_38 ?_
    refine jr_if_eq X.c 53 dX8_ofMarble_41 (by decide) (fun q41 => ?_) (fun q41 => ?_)
    · replace h := cr_if_t q41 h
      refine jr_sipush X.c (v := (-1006 : Int32)) dX8_ofMarble_53 (by decide) ?_
      cases h
      exact jr_iret X.c hr0 dX8_ofMarble_56
    · replace h := cr_if_f q41 h
      refine jr_aload_n X.c dX8_ofMarble_44 rfl 0 rfl ?_
      refine jr_iload_n X.c dX8_ofMarble_45 rfl 1 rfl ?_
      refine jr_iload_n X.c dX8_ofMarble_46 rfl 2 rfl ?_
      obtain ⟨r47, hr47, h⟩ := cr_bd_s h
      refine jc_Vi X.c (As := [.int x1, .int x2]) (V1 := V) (C := RX8) (T := TX8) (N := 22) (ci := 8) 2 (m_X8_part l w V x1 x2  r47 hr47) ⟨rfl, rfl⟩ ml_X8_43 im_X8_part sl_X8_part in_X8 cd_X8_part hd_X8_part ⟨Nat.le_of_ble_eq_true rfl, Nat.le_of_ble_eq_true rfl⟩ ⟨Nat.le_of_ble_eq_true rfl, Nat.le_of_ble_eq_true rfl⟩ rfl (Nat.le_of_ble_eq_true rfl) (by decide) ((cr_row_159 w) _) rfl rfl dX8_ofMarble_47 ?_
      refine jr_goto X.c 56 dX8_ofMarble_50 (by decide) ?_
      cases h
      exact jr_iret X.c hr0 dX8_ofMarble_56
  replace h := cr_if_f q1_1 h
  by_cases q1_5 : x2 = (5 : Int32)
  · replace h := cr_if_t q1_5 h
    refine jr_look X.c 57 dX8_ofMarble_1 (by decide) (off := 56) (by rw [q1_5]; rfl) (by decide) ?_
    refine jr_aload_n X.c dX8_ofMarble_57 rfl 0 rfl ?_
    refine jr_iload_n X.c dX8_ofMarble_58 rfl 1 rfl ?_
    obtain ⟨r59, hr59, h⟩ := cr_bd_s h
    refine jc_Vi X.c (As := [.int x1]) (V1 := V) (C := RX8) (T := TX8) (N := 22) (ci := 8) 1 (m_X8_isThere l w V x1  r59 hr59) ⟨rfl, rfl⟩ ml_X8_56 im_X8_isThere sl_X8_isThere in_X8 cd_X8_isThere hd_X8_isThere ⟨Nat.le_of_ble_eq_true rfl, Nat.le_of_ble_eq_true rfl⟩ ⟨Nat.le_of_ble_eq_true rfl, Nat.le_of_ble_eq_true rfl⟩ rfl (Nat.le_of_ble_eq_true rfl) (by decide) ((cr_row_159 w) _) rfl rfl dX8_ofMarble_59 ?_
    refine jr_if_eq X.c 73 dX8_ofMarble_62 (by decide) (fun q62 => ?_) (fun q62 => ?_)
    · replace h := cr_if_t q62 h
      refine jr_sipush X.c (v := (-1006 : Int32)) dX8_ofMarble_73 (by decide) ?_
      cases h
      exact jr_iret X.c hr0 dX8_ofMarble_76
    · replace h := cr_if_f q62 h
      refine jr_aload_n X.c dX8_ofMarble_65 rfl 0 rfl ?_
      refine jr_iload_n X.c dX8_ofMarble_66 rfl 1 rfl ?_
      obtain ⟨r67, hr67, h⟩ := cr_bd_s h
      refine jc_Vi X.c (As := [.int x1]) (V1 := V) (C := RX8) (T := TX8) (N := 22) (ci := 8) 1 (m_X8_ringsOfMarble l w V x1  r67 hr67) ⟨rfl, rfl⟩ ml_X8_66 im_X8_ringsOfMarble sl_X8_ringsOfMarble in_X8 cd_X8_ringsOfMarble hd_X8_ringsOfMarble ⟨Nat.le_of_ble_eq_true rfl, Nat.le_of_ble_eq_true rfl⟩ ⟨Nat.le_of_ble_eq_true rfl, Nat.le_of_ble_eq_true rfl⟩ rfl (Nat.le_of_ble_eq_true rfl) (by decide) ((cr_row_159 w) _) rfl rfl dX8_ofMarble_67 ?_
      refine jr_goto X.c 76 dX8_ofMarble_70 (by decide) ?_
      cases h
      exact jr_iret X.c hr0 dX8_ofMarble_76
  replace h := cr_if_f q1_5 h
  refine jr_look X.c 77 dX8_ofMarble_1 (by decide) (off := 76) (by erw [lv_osw q1_0 (by decide)]; erw [lv_osw q1_1 (by decide)]; erw [lv_osw q1_5 (by decide)]; rfl) (by decide) ?_
  refine jr_aload_n X.c dX8_ofMarble_77 rfl 0 rfl ?_
  refine jr_iload_n X.c dX8_ofMarble_78 rfl 1 rfl ?_
  refine jr_iload_n X.c dX8_ofMarble_79 rfl 2 rfl ?_
  obtain ⟨r80, hr80, h⟩ := cr_bd_s h
  refine jc_Vi X.c (As := [.int x1, .int x2]) (V1 := V) (C := RX8) (T := TX8) (N := 22) (ci := 8) 2 (m_X8_part l w V x1 x2  r80 hr80) ⟨rfl, rfl⟩ ml_X8_43 im_X8_part sl_X8_part in_X8 cd_X8_part hd_X8_part ⟨Nat.le_of_ble_eq_true rfl, Nat.le_of_ble_eq_true rfl⟩ ⟨Nat.le_of_ble_eq_true rfl, Nat.le_of_ble_eq_true rfl⟩ rfl (Nat.le_of_ble_eq_true rfl) (by decide) ((cr_row_159 w) _) rfl rfl dX8_ofMarble_80 ?_
  cases h
  exact jr_iret X.c hr0 dX8_ofMarble_83
set_option maxRecDepth 100000 in
set_option maxHeartbeats 4000000 in
theorem m_X8_ofMarble (l : Launch) (w : cr_Wd) (V : cr_Hp) (x1 : Int32) (x2 : Int32)  (x : Int32) (h : f_X8_ofMarble x1 x2 V = some x) : Met l yX8_ofMarble (cr_wds yX8_ofMarble cX8_ofMarble 3 (some .int)) rm_X8_ofMarble (cr_Pc w V [.ref (w.1 159), .int x1, .int x2]) (cr_Qi w V x) 0 0 (cr_A w) := by
  refine cr_met (own := RX8) (lv := [(0, .ref (w.1 159)), (1, .int x1), (2, .int x2)]) (by decide +kernel) rfl (Nat.le_of_ble_eq_true rfl) rfl (fun p e s m args below meth c X hr0 => ?_)
  exact t_X8_ofMarble X x1 x2 V  hr0 x h
abbrev rm_X8_marble : Room := { frames := 5, cells := 0, slots := 0, locals := 114 }
theorem hd_X8_marble : yX8_marble.cls = RX8 ∧ yX8_marble.cls ≠ "java/lang/invoke/MethodHandle" ∧ yX8_marble.cls ≠ "java/lang/invoke/VarHandle" ∧ (parseMethodDescriptor yX8_marble.desc).map (fun d => d.parameters.length) = some 2 := by decide +kernel
def f_X8_marble (x1 : Int32) (x2 : Int32) (V : cr_Hp) : Option (Int32) :=
  cr_bd (f_X8_isMarble x1 V) (fun (r2 : Int32) => if r2 = 0 then (some (-1001 : Int32)) else (cr_bd (f_X8_within x2 (0 : Int32) (5 : Int32)) (fun (r15 : Int32) => if r15 = 0 then (some (-1002 : Int32)) else (cr_bd (f_X8_ofMarble x1 x2 V) (fun (r24 : Int32) => some r24)))))
set_option maxRecDepth 100000 in
set_option maxHeartbeats 4000000 in
theorem t_X8_marble {p : Program} {l : Launch} {e : Env} {s : State} {m : MethodId} {args : Array Value} {below : List Frame} {meth : Method} {c : Code} {w : cr_Wd} (X : cr_Cx w RX8 (Cond.code yX8_marble cX8_marble 3 (some .int)) cX8_marble 3 p s m args meth c) (x1 : Int32) (x2 : Int32) (V : cr_Hp)  (hr0 : meth.sig.returnType = (some .int)) (x : Int32) (h : f_X8_marble x1 x2 V = some x) : cr_J w 3 p l e rm_X8_marble s m args below meth c 0 0 (MQ below (cr_Qi w V x) args s 0 0 (cr_A w)) V 0 [(0, .ref (w.1 159)), (1, .int x1), (2, .int x2)] [] := by
  unfold f_X8_marble at h
  refine jr_aload_n X.c dX8_marble_0 rfl 0 rfl ?_
  refine jr_iload_n X.c dX8_marble_1 rfl 1 rfl ?_
  obtain ⟨r2, hr2, h⟩ := cr_bd_s h
  refine jc_Vi X.c (As := [.int x1]) (V1 := V) (C := RX8) (T := TX8) (N := 22) (ci := 8) 1 (m_X8_isMarble l w V x1  r2 hr2) ⟨rfl, rfl⟩ ml_X8_95 im_X8_isMarble sl_X8_isMarble in_X8 cd_X8_isMarble hd_X8_isMarble ⟨Nat.le_of_ble_eq_true rfl, Nat.le_of_ble_eq_true rfl⟩ ⟨Nat.le_of_ble_eq_true rfl, Nat.le_of_ble_eq_true rfl⟩ rfl (Nat.le_of_ble_eq_true rfl) (by decide) ((cr_row_159 w) _) rfl rfl dX8_marble_2 ?_
  refine jr_if_ne X.c 12 dX8_marble_5 (by decide) (fun q5 => ?_) (fun q5 => ?_)
  · replace h := cr_if_f q5 h
    refine jr_iload_n X.c dX8_marble_12 rfl 2 rfl ?_
    refine jr_iconst X.c (v := (0 : Int32)) dX8_marble_13 (by decide) ?_
    refine jr_iconst X.c (v := (5 : Int32)) dX8_marble_14 (by decide) ?_
    obtain ⟨r15, hr15, h⟩ := cr_bd_s h
    refine jc_Si X.c (As := [.int x2, .int (0 : Int32), .int (5 : Int32)]) (V1 := V) 3 (m_X8_within l w V x2 (0 : Int32) (5 : Int32)  r15 hr15) ⟨rfl, rfl⟩ ml_X8_39 st_X8_within in_X8 cd_X8_within hd_X8_within ⟨Nat.le_of_ble_eq_true rfl, Nat.le_of_ble_eq_true rfl⟩ ⟨Nat.le_of_ble_eq_true rfl, Nat.le_of_ble_eq_true rfl⟩ rfl (Nat.le_of_ble_eq_true rfl) rfl dX8_marble_15 ?_
    refine jr_if_eq X.c 30 dX8_marble_18 (by decide) (fun q18 => ?_) (fun q18 => ?_)
    · replace h := cr_if_t q18 h
      refine jr_sipush X.c (v := (-1002 : Int32)) dX8_marble_30 (by decide) ?_
      cases h
      exact jr_iret X.c hr0 dX8_marble_33
    · replace h := cr_if_f q18 h
      refine jr_aload_n X.c dX8_marble_21 rfl 0 rfl ?_
      refine jr_iload_n X.c dX8_marble_22 rfl 1 rfl ?_
      refine jr_iload_n X.c dX8_marble_23 rfl 2 rfl ?_
      obtain ⟨r24, hr24, h⟩ := cr_bd_s h
      refine jc_Vi X.c (As := [.int x1, .int x2]) (V1 := V) (C := RX8) (T := TX8) (N := 22) (ci := 8) 2 (m_X8_ofMarble l w V x1 x2  r24 hr24) ⟨rfl, rfl⟩ ml_X8_129 im_X8_ofMarble sl_X8_ofMarble in_X8 cd_X8_ofMarble hd_X8_ofMarble ⟨Nat.le_of_ble_eq_true rfl, Nat.le_of_ble_eq_true rfl⟩ ⟨Nat.le_of_ble_eq_true rfl, Nat.le_of_ble_eq_true rfl⟩ rfl (Nat.le_of_ble_eq_true rfl) (by decide) ((cr_row_159 w) _) rfl rfl dX8_marble_24 ?_
      refine jr_goto X.c 33 dX8_marble_27 (by decide) ?_
      cases h
      exact jr_iret X.c hr0 dX8_marble_33
  · replace h := cr_if_t q5 h
    refine jr_sipush X.c (v := (-1001 : Int32)) dX8_marble_8 (by decide) ?_
    cases h
    exact jr_iret X.c hr0 dX8_marble_11
set_option maxRecDepth 100000 in
set_option maxHeartbeats 4000000 in
theorem m_X8_marble (l : Launch) (w : cr_Wd) (V : cr_Hp) (x1 : Int32) (x2 : Int32)  (x : Int32) (h : f_X8_marble x1 x2 V = some x) : Met l yX8_marble (cr_wds yX8_marble cX8_marble 3 (some .int)) rm_X8_marble (cr_Pc w V [.ref (w.1 159), .int x1, .int x2]) (cr_Qi w V x) 0 0 (cr_A w) := by
  refine cr_met (own := RX8) (lv := [(0, .ref (w.1 159)), (1, .int x1), (2, .int x2)]) (by decide +kernel) rfl (Nat.le_of_ble_eq_true rfl) rfl (fun p e s m args below meth c X hr0 => ?_)
  exact t_X8_marble X x1 x2 V  hr0 x h
abbrev rm_X8_marblesIn : Room := { frames := 2, cells := 0, slots := 0, locals := 47 }
theorem hd_X8_marblesIn : yX8_marblesIn.cls = RX8 ∧ yX8_marblesIn.cls ≠ "java/lang/invoke/MethodHandle" ∧ yX8_marblesIn.cls ≠ "java/lang/invoke/VarHandle" ∧ (parseMethodDescriptor yX8_marblesIn.desc).map (fun d => d.parameters.length) = some 1 := by decide +kernel
def f_X8_marblesIn_l4 (x1 : Int32) (x2_4 : Int32) (x3_4 : Int32) (V : cr_Hp) : Option ((Int32 × Int32) ⊕ Int32) :=
  cr_gd (cr_ix (0 : Int32) 80) (if (V 160 (0 : Int32).toNatClampNeg) ≤ x3_4 then (some (.inr x2_4)) else (cr_bd (f_X8_isThere x3_4 V) (fun (r17 : Int32) => if r17 = 0 then (some (.inl ((x2_4 ||| (0 : Int32)), (x3_4 + (1 : Int32))))) else (cr_bd (f_X8_part x3_4 (0 : Int32) V) (fun (r28 : Int32) => cr_bd (f_X8_part x3_4 (1 : Int32) V) (fun (r34 : Int32) => cr_bd (f_X8_isIn x1 r28 r34 V) (fun (r37 : Int32) => if r37 = 0 then (some (.inl ((x2_4 ||| (0 : Int32)), (x3_4 + (1 : Int32))))) else (some (.inl ((x2_4 ||| ((1 : Int32) <<< (x3_4 &&& 31))), (x3_4 + (1 : Int32))))))))))))
set_option maxRecDepth 100000 in
set_option maxHeartbeats 4000000 in
theorem t_X8_marblesIn_l4 {p : Program} {l : Launch} {e : Env} {s : State} {m : MethodId} {args : Array Value} {below : List Frame} {meth : Method} {c : Code} {w : cr_Wd} {Q : State → Prop} (X : cr_Cx w RX8 (Cond.code yX8_marblesIn cX8_marblesIn 4 (some .int)) cX8_marblesIn 4 p s m args meth c) (x1 : Int32) (x2_4 : Int32) (x3_4 : Int32) (V : cr_Hp)  (x : (Int32 × Int32) ⊕ Int32) (h : f_X8_marblesIn_l4 x1 x2_4 x3_4 V = some x) (kl : ∀ (x2_4 : Int32) (x3_4 : Int32), x = .inl (x2_4, x3_4) → cr_J w 4 p l e rm_X8_marblesIn s m args below meth c 0 0 Q V 4 [(0, .ref (w.1 159)), (1, .int x1), (2, .int x2_4), (3, .int x3_4)] []) (kr58 : ∀ (u2_4_58 : Int32), x = .inr u2_4_58 → cr_J w 4 p l e rm_X8_marblesIn s m args below meth c 0 0 Q V 58 [(2, .int u2_4_58)] []) : cr_J w 4 p l e rm_X8_marblesIn s m args below meth c 0 0 Q V 4 [(0, .ref (w.1 159)), (1, .int x1), (2, .int x2_4), (3, .int x3_4)] [] := by
  unfold f_X8_marblesIn_l4 at h
  refine jr_iload_n X.c dX8_marblesIn_4 rfl 3 rfl ?_
  refine jr_aload_n X.c dX8_marblesIn_5 rfl 0 rfl ?_
  refine jr_get X.c (ci := 8) (C := RX8) (T := TX8) (N := 22) (k := 0) rfl cr_in8 (by decide) ((cr_row_159 w) _) rfl (by decide) fl_X8_7 dX8_marblesIn_6 ?_
  refine jr_iconst X.c (v := (0 : Int32)) dX8_marblesIn_9 (by decide) ?_
  obtain ⟨hi10, h⟩ := cr_gd_s h
  refine jr_iald X.c (by decide) ((cr_row_160 w) _) hi10 dX8_marblesIn_10 ?_
  refine jr_icmp_ge X.c 58 dX8_marblesIn_11 (by decide) (fun q11 => ?_) (fun q11 => ?_)
  · replace h := cr_if_t q11 h
    cases h
    refine jr_sub [2] rfl ?_
    exact kr58 x2_4 rfl
  · replace h := cr_if_f q11 h
    refine jr_iload_n X.c dX8_marblesIn_14 rfl 2 rfl ?_
    refine jr_aload_n X.c dX8_marblesIn_15 rfl 0 rfl ?_
    refine jr_iload_n X.c dX8_marblesIn_16 rfl 3 rfl ?_
    obtain ⟨r17, hr17, h⟩ := cr_bd_s h
    refine jc_Vi X.c (As := [.int x3_4]) (V1 := V) (C := RX8) (T := TX8) (N := 22) (ci := 8) 1 (m_X8_isThere l w V x3_4  r17 hr17) ⟨rfl, rfl⟩ ml_X8_56 im_X8_isThere sl_X8_isThere in_X8 cd_X8_isThere hd_X8_isThere ⟨Nat.le_of_ble_eq_true rfl, Nat.le_of_ble_eq_true rfl⟩ ⟨Nat.le_of_ble_eq_true rfl, Nat.le_of_ble_eq_true rfl⟩ rfl (Nat.le_of_ble_eq_true rfl) (by decide) ((cr_row_159 w) _) rfl rfl dX8_marblesIn_17 ?_
    refine jr_if_eq X.c 49 dX8_marblesIn_20 (by decide) (fun q20 => ?_) (fun q20 => ?_)
    · replace h := cr_if_t q20 h
      refine jr_iconst X.c (v := (0 : Int32)) dX8_marblesIn_49 (by decide) ?_
      refine jr_ior X.c dX8_marblesIn_50 ?_
      refine jr_istore_n X.c (lv2 := [(2, .int (x2_4 ||| (0 : Int32))), (0, .ref (w.1 159)), (1, .int x1), (3, .int x3_4)]) dX8_marblesIn_51 rfl (by decide) rfl ?_
      refine jr_iinc X.c (v := (x3_4 + (1 : Int32))) (lv2 := [(3, .int (x3_4 + (1 : Int32))), (2, .int (x2_4 ||| (0 : Int32))), (0, .ref (w.1 159)), (1, .int x1)]) dX8_marblesIn_52 3 rfl (by rfl) (by decide) rfl ?_
      refine jr_goto X.c 4 dX8_marblesIn_55 (by decide) ?_
      cases h
      refine jr_sub [2, 3, 1, 0] rfl ?_
      exact kl (x2_4 ||| (0 : Int32)) (x3_4 + (1 : Int32)) rfl
    · replace h := cr_if_f q20 h
      refine jr_aload_n X.c dX8_marblesIn_23 rfl 0 rfl ?_
      refine jr_iload_n X.c dX8_marblesIn_24 rfl 1 rfl ?_
      refine jr_aload_n X.c dX8_marblesIn_25 rfl 0 rfl ?_
      refine jr_iload_n X.c dX8_marblesIn_26 rfl 3 rfl ?_
      refine jr_iconst X.c (v := (0 : Int32)) dX8_marblesIn_27 (by decide) ?_
      obtain ⟨r28, hr28, h⟩ := cr_bd_s h
      refine jc_Vi X.c (As := [.int x3_4, .int (0 : Int32)]) (V1 := V) (C := RX8) (T := TX8) (N := 22) (ci := 8) 2 (m_X8_part l w V x3_4 (0 : Int32)  r28 hr28) ⟨rfl, rfl⟩ ml_X8_43 im_X8_part sl_X8_part in_X8 cd_X8_part hd_X8_part ⟨Nat.le_of_ble_eq_true rfl, Nat.le_of_ble_eq_true rfl⟩ ⟨Nat.le_of_ble_eq_true rfl, Nat.le_of_ble_eq_true rfl⟩ rfl (Nat.le_of_ble_eq_true rfl) (by decide) ((cr_row_159 w) _) rfl rfl dX8_marblesIn_28 ?_
      refine jr_aload_n X.c dX8_marblesIn_31 rfl 0 rfl ?_
      refine jr_iload_n X.c dX8_marblesIn_32 rfl 3 rfl ?_
      refine jr_iconst X.c (v := (1 : Int32)) dX8_marblesIn_33 (by decide) ?_
      obtain ⟨r34, hr34, h⟩ := cr_bd_s h
      refine jc_Vi X.c (As := [.int x3_4, .int (1 : Int32)]) (V1 := V) (C := RX8) (T := TX8) (N := 22) (ci := 8) 2 (m_X8_part l w V x3_4 (1 : Int32)  r34 hr34) ⟨rfl, rfl⟩ ml_X8_43 im_X8_part sl_X8_part in_X8 cd_X8_part hd_X8_part ⟨Nat.le_of_ble_eq_true rfl, Nat.le_of_ble_eq_true rfl⟩ ⟨Nat.le_of_ble_eq_true rfl, Nat.le_of_ble_eq_true rfl⟩ rfl (Nat.le_of_ble_eq_true rfl) (by decide) ((cr_row_159 w) _) rfl rfl dX8_marblesIn_34 ?_
      obtain ⟨r37, hr37, h⟩ := cr_bd_s h
      refine jc_Vi X.c (As := [.int x1, .int r28, .int r34]) (V1 := V) (C := RX8) (T := TX8) (N := 22) (ci := 8) 3 (m_X8_isIn l w V x1 r28 r34  r37 hr37) ⟨rfl, rfl⟩ ml_X8_50 im_X8_isIn sl_X8_isIn in_X8 cd_X8_isIn hd_X8_isIn ⟨Nat.le_of_ble_eq_true rfl, Nat.le_of_ble_eq_true rfl⟩ ⟨Nat.le_of_ble_eq_true rfl, Nat.le_of_ble_eq_true rfl⟩ rfl (Nat.le_of_ble_eq_true rfl) (by decide) ((cr_row_159 w) _) rfl rfl dX8_marblesIn_37 ?_
      refine jr_if_eq X.c 49 dX8_marblesIn_40 (by decide) (fun q40 => ?_) (fun q40 => ?_)
      · replace h := cr_if_t q40 h
        refine jr_iconst X.c (v := (0 : Int32)) dX8_marblesIn_49 (by decide) ?_
        refine jr_ior X.c dX8_marblesIn_50 ?_
        refine jr_istore_n X.c (lv2 := [(2, .int (x2_4 ||| (0 : Int32))), (0, .ref (w.1 159)), (1, .int x1), (3, .int x3_4)]) dX8_marblesIn_51 rfl (by decide) rfl ?_
        refine jr_iinc X.c (v := (x3_4 + (1 : Int32))) (lv2 := [(3, .int (x3_4 + (1 : Int32))), (2, .int (x2_4 ||| (0 : Int32))), (0, .ref (w.1 159)), (1, .int x1)]) dX8_marblesIn_52 3 rfl (by rfl) (by decide) rfl ?_
        refine jr_goto X.c 4 dX8_marblesIn_55 (by decide) ?_
        cases h
        refine jr_sub [2, 3, 1, 0] rfl ?_
        exact kl (x2_4 ||| (0 : Int32)) (x3_4 + (1 : Int32)) rfl
      · replace h := cr_if_f q40 h
        refine jr_iconst X.c (v := (1 : Int32)) dX8_marblesIn_43 (by decide) ?_
        refine jr_iload_n X.c dX8_marblesIn_44 rfl 3 rfl ?_
        refine jr_ishl X.c dX8_marblesIn_45 ?_
        refine jr_goto X.c 50 dX8_marblesIn_46 (by decide) ?_
        refine jr_ior X.c dX8_marblesIn_50 ?_
        refine jr_istore_n X.c (lv2 := [(2, .int (x2_4 ||| ((1 : Int32) <<< (x3_4 &&& 31)))), (0, .ref (w.1 159)), (1, .int x1), (3, .int x3_4)]) dX8_marblesIn_51 rfl (by decide) rfl ?_
        refine jr_iinc X.c (v := (x3_4 + (1 : Int32))) (lv2 := [(3, .int (x3_4 + (1 : Int32))), (2, .int (x2_4 ||| ((1 : Int32) <<< (x3_4 &&& 31)))), (0, .ref (w.1 159)), (1, .int x1)]) dX8_marblesIn_52 3 rfl (by rfl) (by decide) rfl ?_
        refine jr_goto X.c 4 dX8_marblesIn_55 (by decide) ?_
        cases h
        refine jr_sub [2, 3, 1, 0] rfl ?_
        exact kl (x2_4 ||| ((1 : Int32) <<< (x3_4 &&& 31))) (x3_4 + (1 : Int32)) rfl
def f_X8_marblesIn (x1 : Int32) (V : cr_Hp) : Option (Int32) :=
  cr_bd (cr_it (fun (q : Int32 × Int32) => f_X8_marblesIn_l4 x1 q.1 q.2 V) cr_FU ((0 : Int32), (0 : Int32))) (fun (u2_4_58 : Int32) => some u2_4_58)
set_option maxRecDepth 100000 in
set_option maxHeartbeats 4000000 in
theorem t_X8_marblesIn {p : Program} {l : Launch} {e : Env} {s : State} {m : MethodId} {args : Array Value} {below : List Frame} {meth : Method} {c : Code} {w : cr_Wd} (X : cr_Cx w RX8 (Cond.code yX8_marblesIn cX8_marblesIn 4 (some .int)) cX8_marblesIn 4 p s m args meth c) (x1 : Int32) (V : cr_Hp)  (hr0 : meth.sig.returnType = (some .int)) (x : Int32) (h : f_X8_marblesIn x1 V = some x) : cr_J w 4 p l e rm_X8_marblesIn s m args below meth c 0 0 (MQ below (cr_Qi w V x) args s 0 0 (cr_A w)) V 0 [(0, .ref (w.1 159)), (1, .int x1)] [] := by
  unfold f_X8_marblesIn at h
  refine jr_iconst X.c (v := (0 : Int32)) dX8_marblesIn_0 (by decide) ?_
  refine jr_istore_n X.c (lv2 := [(2, .int (0 : Int32)), (0, .ref (w.1 159)), (1, .int x1)]) dX8_marblesIn_1 rfl (by decide) rfl ?_
  refine jr_iconst X.c (v := (0 : Int32)) dX8_marblesIn_2 (by decide) ?_
  refine jr_istore_n X.c (lv2 := [(3, .int (0 : Int32)), (2, .int (0 : Int32)), (0, .ref (w.1 159)), (1, .int x1)]) dX8_marblesIn_3 rfl (by decide) rfl ?_
  obtain ⟨e4, he4, h⟩ := cr_bd_s h
  have kx58 : ∀ (u2_4_58 : Int32), e4 = u2_4_58 → cr_J w 4 p l e rm_X8_marblesIn s m args below meth c 0 0 (MQ below (cr_Qi w V x) args s 0 0 (cr_A w)) V 58 [(2, .int u2_4_58)] [] := by
    intro u2_4_58 qx
    rw [qx] at h
    try simp only [cr_sm, cr_u2, cr_u3, cr_u4, cr_u5, cr_u6] at h
    refine jr_iload_n X.c dX8_marblesIn_58 rfl 0 rfl ?_
    cases h
    exact jr_iret X.c hr0 dX8_marblesIn_59
  refine jr_sub [2, 3, 1, 0] rfl ?_
  refine cr_it_W (f := (fun (q : Int32 × Int32) => f_X8_marblesIn_l4 x1 q.1 q.2 V)) (P := fun (q : Int32 × Int32) => cr_J w 4 p l e rm_X8_marblesIn s m args below meth c 0 0 (MQ below (cr_Qi w V x) args s 0 0 (cr_A w)) V 4 [(0, .ref (w.1 159)), (1, .int x1), (2, .int q.1), (3, .int q.2)] []) (K := fun z => z = e4) (fun q x hx kl kr => ?_) cr_FU ((0 : Int32), (0 : Int32)) e4 he4 rfl
  obtain ⟨x2_4, x3_4⟩ := q
  exact t_X8_marblesIn_l4 X x1 x2_4 x3_4 V  x hx (fun x2_4 x3_4 ez => kl _ ez) (fun u2_4_58 ez => kx58 u2_4_58 ((kr _ ez).symm))
set_option maxRecDepth 100000 in
set_option maxHeartbeats 4000000 in
theorem m_X8_marblesIn (l : Launch) (w : cr_Wd) (V : cr_Hp) (x1 : Int32)  (x : Int32) (h : f_X8_marblesIn x1 V = some x) : Met l yX8_marblesIn (cr_wds yX8_marblesIn cX8_marblesIn 4 (some .int)) rm_X8_marblesIn (cr_Pc w V [.ref (w.1 159), .int x1]) (cr_Qi w V x) 0 0 (cr_A w) := by
  refine cr_met (own := RX8) (lv := [(0, .ref (w.1 159)), (1, .int x1)]) (by decide +kernel) rfl (Nat.le_of_ble_eq_true rfl) rfl (fun p e s m args below meth c X hr0 => ?_)
  exact t_X8_marblesIn X x1 V  hr0 x h
