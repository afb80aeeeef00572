abbrev rm_L_same : Room := { frames := 4, cells := 0, slots := 0, locals := 97 }
theorem hd_L_same : yL_same.cls ≠ "java/lang/invoke/MethodHandle" ∧ yL_same.cls ≠ "java/lang/invoke/VarHandle" ∧ (parseMethodDescriptor yL_same.desc).map (fun d => d.parameters.length) = some 5 := by decide +kernel
def f_L_same_l3 (a2_ : Nat) (a3_ : Nat) (a4_ : Nat) (x1 : Int32) (x5_3 : Int32) (V : cr_Hp) : Option (Int32 ⊕ Unit) :=
  if (8 : Int32) ≤ x5_3 then (some (.inr ())) else (cr_bd (f_X7_count x5_3 V) (fun (r13 : Int32) => cr_gd (cr_ix x5_3 8) (if r13 = (V a2_ x5_3.toNatClampNeg) then (some (.inl (x5_3 + (1 : Int32)))) else (none))))
set_option maxRecDepth 100000 in
set_option maxHeartbeats 4000000 in
theorem t_L_same_l3 {p : Program} {l : Launch} {e : Env} {s : State} {m : MethodId} {args : Array Value} {below : List Frame} {meth : Method} {c : Code} {w : cr_Wd} {Q : State → Prop} (X : cr_Cx w RL (Cond.code yL_same cL_same 15 (some .boolean)) cL_same 15 p s m args meth c) (a2_ : Nat) (a3_ : Nat) (a4_ : Nat) (x1 : Int32) (x5_3 : Int32) (V : cr_Hp) (ha2_ : cr_iv w 8 a2_) (ha3_ : cr_iv w 60 a3_) (ha4_ : cr_iv w 12 a4_) (x : Int32 ⊕ Unit) (h : f_L_same_l3 a2_ a3_ a4_ x1 x5_3 V = some x) (kl : ∀ (x5_3 : Int32), x = .inl x5_3 → cr_J w 15 p l e rm_L_same s m args below meth c 0 0 Q V 3 [(0, .ref (w.1 152)), (1, .int x1), (2, .ref (w.1 a2_)), (3, .ref (w.1 a3_)), (4, .ref (w.1 a4_)), (5, .int x5_3)] []) (kr31 : x = .inr () → cr_J w 15 p l e rm_L_same s m args below meth c 0 0 Q V 31 [(0, .ref (w.1 152)), (1, .int x1), (2, .ref (w.1 a2_)), (3, .ref (w.1 a3_)), (4, .ref (w.1 a4_))] []) : cr_J w 15 p l e rm_L_same s m args below meth c 0 0 Q V 3 [(0, .ref (w.1 152)), (1, .int x1), (2, .ref (w.1 a2_)), (3, .ref (w.1 a3_)), (4, .ref (w.1 a4_)), (5, .int x5_3)] [] := by
  unfold f_L_same_l3 at h
  refine jr_iload X.c dL_same_3 5 rfl ?_
  refine jr_bipush X.c (v := (8 : Int32)) dL_same_5 (by decide) ?_
  refine jr_icmp_ge X.c 31 dL_same_7 (by decide) (fun q7 => ?_) (fun q7 => ?_)
  · replace h := cr_if_t q7 h
    cases h
    refine jr_sub [0, 1, 2, 3, 4] rfl ?_
    exact kr31  rfl
  · replace h := cr_if_f q7 h
    refine jr_aload_n X.c dL_same_10 rfl 0 rfl ?_
    refine jr_iload X.c dL_same_11 5 rfl ?_
    obtain ⟨r13, hr13, h⟩ := cr_bd_s h
    refine jc_Vi X.c (As := [.int x5_3]) (V1 := V) (C := RX7) (T := TX7) (N := 5) (ci := 7) 1 (m_X7_count l w V x5_3  r13 hr13) ⟨rfl, rfl⟩ ml_L_31 im_X7_count sl_X7_count in_X7 cd_X7_count hd_X7_count ⟨Nat.le_of_ble_eq_true rfl, Nat.le_of_ble_eq_true rfl⟩ ⟨Nat.le_of_ble_eq_true rfl, Nat.le_of_ble_eq_true rfl⟩ rfl (Nat.le_of_ble_eq_true rfl) (Or.inl (by decide)) ((cr_row_152 w) _) rfl rfl dL_same_13 ?_
    refine jr_aload_n X.c dL_same_16 rfl 2 rfl ?_
    refine jr_iload X.c dL_same_17 5 rfl ?_
    obtain ⟨hi19, h⟩ := cr_gd_s h
    refine jr_iald X.c (cr_l_iv ha2_) ((cr_row_iv ha2_) _) hi19 dL_same_19 ?_
    refine jr_icmp_eq X.c 25 dL_same_20 (by decide) (fun q20 => ?_) (fun q20 => ?_)
    · replace h := cr_if_t q20 h
      refine jr_iinc X.c (v := (x5_3 + (1 : Int32))) (lv2 := [(5, .int (x5_3 + (1 : Int32))), (0, .ref (w.1 152)), (1, .int x1), (2, .ref (w.1 a2_)), (3, .ref (w.1 a3_)), (4, .ref (w.1 a4_))]) dL_same_25 5 rfl (by rfl) (by decide) rfl ?_
      refine jr_goto X.c 3 dL_same_28 (by decide) ?_
      cases h
      refine jr_sub [1, 2, 3, 4, 5, 0] rfl ?_
      exact kl (x5_3 + (1 : Int32)) rfl
    · replace h := cr_if_f q20 h
      cases h
def f_L_same_l264 (a2_ : Nat) (a3_ : Nat) (a4_ : Nat) (x1 : Int32) (x5_34 : Int32) (z0_58 : Int32) (n66 : Int32) (n76 : Int32) (r85 : Int32) (x11_251 : Int32) (x10_264 : Int32) (x12_264 : Int32) (V : cr_Hp) : Option ((Int32 × Int32) ⊕ Int32) :=
  if (9 : Int32) ≤ x12_264 then (some (.inr x10_264)) else (cr_lt ((n76 + (x11_251 * ((x12_264 - x12_264 / (3 : Int32) * (3 : Int32)) - (1 : Int32))))) (fun (n297 : Int32) => if x12_264 = (4 : Int32) then (some (.inl (x10_264, (x12_264 + (1 : Int32))))) else (if (n66 + (x11_251 * ((x12_264 / (3 : Int32)) - (1 : Int32)))) < 0 then (some (.inl (x10_264, (x12_264 + (1 : Int32))))) else (if (31 : Int32) ≤ (n66 + (x11_251 * ((x12_264 / (3 : Int32)) - (1 : Int32)))) then (some (.inl (x10_264, (x12_264 + (1 : Int32))))) else (if n297 < 0 then (some (.inl (x10_264, (x12_264 + (1 : Int32))))) else (if (31 : Int32) ≤ n297 then (some (.inl (x10_264, (x12_264 + (1 : Int32))))) else (cr_bd (f_L_rings a2_ a4_ (n66 + (x11_251 * ((x12_264 / (3 : Int32)) - (1 : Int32)))) n297 V) (fun (r336 : Int32) => if r336 = 0 then (some (.inl (x11_251, (x12_264 + (1 : Int32))))) else (some (.inl (x10_264, (x12_264 + (1 : Int32)))))))))))))
set_option maxRecDepth 100000 in
set_option maxHeartbeats 4000000 in
theorem t_L_same_l264 {p : Program} {l : Launch} {e : Env} {s : State} {m : MethodId} {args : Array Value} {below : List Frame} {meth : Method} {c : Code} {w : cr_Wd} {Q : State → Prop} (X : cr_Cx w RL (Cond.code yL_same cL_same 15 (some .boolean)) cL_same 15 p s m args meth c) (a2_ : Nat) (a3_ : Nat) (a4_ : Nat) (x1 : Int32) (x5_34 : Int32) (z0_58 : Int32) (n66 : Int32) (n76 : Int32) (r85 : Int32) (x11_251 : Int32) (x10_264 : Int32) (x12_264 : Int32) (V : cr_Hp) (ha2_ : cr_iv w 8 a2_) (ha3_ : cr_iv w 60 a3_) (ha4_ : cr_iv w 12 a4_) (x : (Int32 × Int32) ⊕ Int32) (h : f_L_same_l264 a2_ a3_ a4_ x1 x5_34 z0_58 n66 n76 r85 x11_251 x10_264 x12_264 V = some x) (kl : ∀ (x10_264 : Int32) (x12_264 : Int32), x = .inl (x10_264, x12_264) → cr_J w 15 p l e rm_L_same s m args below meth c 0 0 Q V 264 [(0, .ref (w.1 152)), (1, .int x1), (2, .ref (w.1 a2_)), (3, .ref (w.1 a3_)), (4, .ref (w.1 a4_)), (5, .int x5_34), (6, .int z0_58), (7, .int n66), (8, .int n76), (9, .int r85), (10, .int x10_264), (11, .int x11_251), (12, .int x12_264)] []) (kr352 : ∀ (u10_264_352 : Int32), x = .inr u10_264_352 → cr_J w 15 p l e rm_L_same s m args below meth c 0 0 Q V 352 [(0, .ref (w.1 152)), (1, .int x1), (2, .ref (w.1 a2_)), (3, .ref (w.1 a3_)), (4, .ref (w.1 a4_)), (5, .int x5_34), (6, .int z0_58), (7, .int n66), (8, .int n76), (9, .int r85), (10, .int u10_264_352), (11, .int x11_251)] []) : cr_J w 15 p l e rm_L_same s m args below meth c 0 0 Q V 264 [(0, .ref (w.1 152)), (1, .int x1), (2, .ref (w.1 a2_)), (3, .ref (w.1 a3_)), (4, .ref (w.1 a4_)), (5, .int x5_34), (6, .int z0_58), (7, .int n66), (8, .int n76), (9, .int r85), (10, .int x10_264), (11, .int x11_251), (12, .int x12_264)] [] := by
  unfold f_L_same_l264 at h
  refine jr_iload X.c dL_same_264 12 rfl ?_
  refine jr_bipush X.c (v := (9 : Int32)) dL_same_266 (by decide) ?_
  refine jr_icmp_ge X.c 352 dL_same_268 (by decide) (fun q268 => ?_) (fun q268 => ?_)
  · replace h := cr_if_t q268 h
    cases h
    refine jr_sub [0, 1, 2, 3, 4, 5, 6, 7, 8, 9, 10, 11] rfl ?_
    exact kr352 x10_264 rfl
  · replace h := cr_if_f q268 h
    refine jr_iload X.c dL_same_271 7 rfl ?_
    refine jr_iload X.c dL_same_273 11 rfl ?_
    refine jr_iload X.c dL_same_275 12 rfl ?_
    refine jr_iconst X.c (v := (3 : Int32)) dL_same_277 (by decide) ?_
    refine jr_idiv X.c dL_same_278 (by decide) ?_
    refine jr_iconst X.c (v := (1 : Int32)) dL_same_279 (by decide) ?_
    refine jr_isub X.c dL_same_280 ?_
    refine jr_imul X.c dL_same_281 ?_
    refine jr_iadd X.c dL_same_282 ?_
    refine jr_istore X.c (lv2 := [(13, .int (n66 + (x11_251 * ((x12_264 / (3 : Int32)) - (1 : Int32))))), (0, .ref (w.1 152)), (1, .int x1), (2, .ref (w.1 a2_)), (3, .ref (w.1 a3_)), (4, .ref (w.1 a4_)), (5, .int x5_34), (6, .int z0_58), (7, .int n66), (8, .int n76), (9, .int r85), (10, .int x10_264), (11, .int x11_251), (12, .int x12_264)]) dL_same_283 (by decide) rfl ?_
    refine jr_iload X.c dL_same_285 9 rfl ?_
    refine jr_iload X.c dL_same_287 12 rfl ?_
    refine jr_iload X.c dL_same_289 13 rfl ?_
    refine jr_iconst X.c (v := (3 : Int32)) dL_same_291 (by decide) ?_
    refine jr_irem X.c dL_same_292 (by decide) ?_
    refine jr_iconst X.c (v := (1 : Int32)) dL_same_293 (by decide) ?_
    refine jr_isub X.c dL_same_294 ?_
    refine jr_imul X.c dL_same_295 ?_
    refine jr_iadd X.c dL_same_296 ?_
    obtain ⟨n297, en297, h⟩ := cr_lt_s h
    refine jr_top en297 ?_
    refine jr_istore X.c (lv2 := [(14, .int n297), (13, .int (n66 + (x11_251 * ((x12_264 / (3 : Int32)) - (1 : Int32))))), (0, .ref (w.1 152)), (1, .int x1), (2, .ref (w.1 a2_)), (3, .ref (w.1 a3_)), (4, .ref (w.1 a4_)), (5, .int x5_34), (6, .int z0_58), (7, .int n66), (8, .int n76), (9, .int r85), (10, .int x10_264), (11, .int x11_251), (12, .int x12_264)]) dL_same_297 (by decide) rfl ?_
    refine jr_iload X.c dL_same_299 14 rfl ?_
    refine jr_iconst X.c (v := (4 : Int32)) dL_same_301 (by decide) ?_
    refine jr_icmp_eq X.c 346 dL_same_302 (by decide) (fun q302 => ?_) (fun q302 => ?_)
    · replace h := cr_if_t q302 h
      refine jr_iinc X.c (v := (x12_264 + (1 : Int32))) (lv2 := [(12, .int (x12_264 + (1 : Int32))), (14, .int n297), (13, .int (n66 + (x11_251 * ((x12_264 / (3 : Int32)) - (1 : Int32))))), (0, .ref (w.1 152)), (1, .int x1), (2, .ref (w.1 a2_)), (3, .ref (w.1 a3_)), (4, .ref (w.1 a4_)), (5, .int x5_34), (6, .int z0_58), (7, .int n66), (8, .int n76), (9, .int r85), (10, .int x10_264), (11, .int x11_251)]) dL_same_346 14 rfl (by rfl) (by decide) rfl ?_
      refine jr_goto X.c 264 dL_same_349 (by decide) ?_
      cases h
      refine jr_sub [3, 4, 5, 6, 7, 8, 9, 10, 11, 12, 13, 14, 0] rfl ?_
      exact kl x10_264 (x12_264 + (1 : Int32)) rfl
    · replace h := cr_if_f q302 h
      refine jr_iload X.c dL_same_305 1 rfl ?_
      refine jr_if_lt X.c 346 dL_same_307 (by decide) (fun q307 => ?_) (fun q307 => ?_)
      · replace h := cr_if_t q307 h
        refine jr_iinc X.c (v := (x12_264 + (1 : Int32))) (lv2 := [(12, .int (x12_264 + (1 : Int32))), (14, .int n297), (13, .int (n66 + (x11_251 * ((x12_264 / (3 : Int32)) - (1 : Int32))))), (0, .ref (w.1 152)), (1, .int x1), (2, .ref (w.1 a2_)), (3, .ref (w.1 a3_)), (4, .ref (w.1 a4_)), (5, .int x5_34), (6, .int z0_58), (7, .int n66), (8, .int n76), (9, .int r85), (10, .int x10_264), (11, .int x11_251)]) dL_same_346 14 rfl (by rfl) (by decide) rfl ?_
        refine jr_goto X.c 264 dL_same_349 (by decide) ?_
        cases h
        refine jr_sub [3, 4, 5, 6, 7, 8, 9, 10, 11, 12, 13, 14, 0] rfl ?_
        exact kl x10_264 (x12_264 + (1 : Int32)) rfl
      · replace h := cr_if_f q307 h
        refine jr_iload X.c dL_same_310 1 rfl ?_
        refine jr_bipush X.c (v := (31 : Int32)) dL_same_312 (by decide) ?_
        refine jr_icmp_ge X.c 346 dL_same_314 (by decide) (fun q314 => ?_) (fun q314 => ?_)
        · replace h := cr_if_t q314 h
          refine jr_iinc X.c (v := (x12_264 + (1 : Int32))) (lv2 := [(12, .int (x12_264 + (1 : Int32))), (14, .int n297), (13, .int (n66 + (x11_251 * ((x12_264 / (3 : Int32)) - (1 : Int32))))), (0, .ref (w.1 152)), (1, .int x1), (2, .ref (w.1 a2_)), (3, .ref (w.1 a3_)), (4, .ref (w.1 a4_)), (5, .int x5_34), (6, .int z0_58), (7, .int n66), (8, .int n76), (9, .int r85), (10, .int x10_264), (11, .int x11_251)]) dL_same_346 14 rfl (by rfl) (by decide) rfl ?_
          refine jr_goto X.c 264 dL_same_349 (by decide) ?_
          cases h
          refine jr_sub [3, 4, 5, 6, 7, 8, 9, 10, 11, 12, 13, 14, 0] rfl ?_
          exact kl x10_264 (x12_264 + (1 : Int32)) rfl
        · replace h := cr_if_f q314 h
          refine jr_iload X.c dL_same_317 0 rfl ?_
          refine jr_if_lt X.c 346 dL_same_319 (by decide) (fun q319 => ?_) (fun q319 => ?_)
          · replace h := cr_if_t q319 h
            refine jr_iinc X.c (v := (x12_264 + (1 : Int32))) (lv2 := [(12, .int (x12_264 + (1 : Int32))), (14, .int n297), (13, .int (n66 + (x11_251 * ((x12_264 / (3 : Int32)) - (1 : Int32))))), (0, .ref (w.1 152)), (1, .int x1), (2, .ref (w.1 a2_)), (3, .ref (w.1 a3_)), (4, .ref (w.1 a4_)), (5, .int x5_34), (6, .int z0_58), (7, .int n66), (8, .int n76), (9, .int r85), (10, .int x10_264), (11, .int x11_251)]) dL_same_346 14 rfl (by rfl) (by decide) rfl ?_
            refine jr_goto X.c 264 dL_same_349 (by decide) ?_
            cases h
            refine jr_sub [3, 4, 5, 6, 7, 8, 9, 10, 11, 12, 13, 14, 0] rfl ?_
            exact kl x10_264 (x12_264 + (1 : Int32)) rfl
          · replace h := cr_if_f q319 h
            refine jr_iload X.c dL_same_322 0 rfl ?_
            refine jr_bipush X.c (v := (31 : Int32)) dL_same_324 (by decide) ?_
            refine jr_icmp_ge X.c 346 dL_same_326 (by decide) (fun q326 => ?_) (fun q326 => ?_)
            · replace h := cr_if_t q326 h
              refine jr_iinc X.c (v := (x12_264 + (1 : Int32))) (lv2 := [(12, .int (x12_264 + (1 : Int32))), (14, .int n297), (13, .int (n66 + (x11_251 * ((x12_264 / (3 : Int32)) - (1 : Int32))))), (0, .ref (w.1 152)), (1, .int x1), (2, .ref (w.1 a2_)), (3, .ref (w.1 a3_)), (4, .ref (w.1 a4_)), (5, .int x5_34), (6, .int z0_58), (7, .int n66), (8, .int n76), (9, .int r85), (10, .int x10_264), (11, .int x11_251)]) dL_same_346 14 rfl (by rfl) (by decide) rfl ?_
              refine jr_goto X.c 264 dL_same_349 (by decide) ?_
              cases h
              refine jr_sub [3, 4, 5, 6, 7, 8, 9, 10, 11, 12, 13, 14, 0] rfl ?_
              exact kl x10_264 (x12_264 + (1 : Int32)) rfl
            · replace h := cr_if_f q326 h
              refine jr_iload X.c dL_same_329 1 rfl ?_
              refine jr_iload X.c dL_same_331 0 rfl ?_
              refine jr_aload_n X.c dL_same_333 rfl 4 rfl ?_
              refine jr_aload X.c dL_same_334 6 rfl ?_
              obtain ⟨r336, hr336, h⟩ := cr_bd_s h
              refine jc_Si X.c (As := [.int (n66 + (x11_251 * ((x12_264 / (3 : Int32)) - (1 : Int32)))), .int n297, .ref (w.1 a2_), .ref (w.1 a4_)]) (V1 := V) 4 (m_L_rings l w V a2_ a4_ (n66 + (x11_251 * ((x12_264 / (3 : Int32)) - (1 : Int32)))) n297 ha2_ ha4_ r336 hr336) ⟨rfl, rfl⟩ ml_L_16 st_L_rings in_L cd_L_rings hd_L_rings ⟨Nat.le_of_ble_eq_true rfl, Nat.le_of_ble_eq_true rfl⟩ ⟨Nat.le_of_ble_eq_true rfl, Nat.le_of_ble_eq_true rfl⟩ rfl (Nat.le_of_ble_eq_true rfl) rfl dL_same_336 ?_
              refine jr_if_ne X.c 346 dL_same_339 (by decide) (fun q339 => ?_) (fun q339 => ?_)
              · replace h := cr_if_f q339 h
                refine jr_iinc X.c (v := (x12_264 + (1 : Int32))) (lv2 := [(12, .int (x12_264 + (1 : Int32))), (14, .int n297), (13, .int (n66 + (x11_251 * ((x12_264 / (3 : Int32)) - (1 : Int32))))), (0, .ref (w.1 152)), (1, .int x1), (2, .ref (w.1 a2_)), (3, .ref (w.1 a3_)), (4, .ref (w.1 a4_)), (5, .int x5_34), (6, .int z0_58), (7, .int n66), (8, .int n76), (9, .int r85), (10, .int x10_264), (11, .int x11_251)]) dL_same_346 14 rfl (by rfl) (by decide) rfl ?_
                refine jr_goto X.c 264 dL_same_349 (by decide) ?_
                cases h
                refine jr_sub [3, 4, 5, 6, 7, 8, 9, 10, 11, 12, 13, 14, 0] rfl ?_
                exact kl x10_264 (x12_264 + (1 : Int32)) rfl
              · replace h := cr_if_t q339 h
                refine jr_iload X.c dL_same_342 13 rfl ?_
                refine jr_istore X.c (lv2 := [(10, .int x11_251), (14, .int n297), (13, .int (n66 + (x11_251 * ((x12_264 / (3 : Int32)) - (1 : Int32))))), (0, .ref (w.1 152)), (1, .int x1), (2, .ref (w.1 a2_)), (3, .ref (w.1 a3_)), (4, .ref (w.1 a4_)), (5, .int x5_34), (6, .int z0_58), (7, .int n66), (8, .int n76), (9, .int r85), (11, .int x11_251), (12, .int x12_264)]) dL_same_344 (by decide) rfl ?_
                refine jr_iinc X.c (v := (x12_264 + (1 : Int32))) (lv2 := [(12, .int (x12_264 + (1 : Int32))), (10, .int x11_251), (14, .int n297), (13, .int (n66 + (x11_251 * ((x12_264 / (3 : Int32)) - (1 : Int32))))), (0, .ref (w.1 152)), (1, .int x1), (2, .ref (w.1 a2_)), (3, .ref (w.1 a3_)), (4, .ref (w.1 a4_)), (5, .int x5_34), (6, .int z0_58), (7, .int n66), (8, .int n76), (9, .int r85), (11, .int x11_251)]) dL_same_346 14 rfl (by rfl) (by decide) rfl ?_
                refine jr_goto X.c 264 dL_same_349 (by decide) ?_
                cases h
                refine jr_sub [4, 5, 6, 7, 8, 9, 10, 11, 12, 13, 1, 14, 0] rfl ?_
                exact kl x11_251 (x12_264 + (1 : Int32)) rfl
def f_L_same_l251 (a2_ : Nat) (a3_ : Nat) (a4_ : Nat) (x1 : Int32) (x5_34 : Int32) (z0_58 : Int32) (n66 : Int32) (n76 : Int32) (r85 : Int32) (x10_251 : Int32) (x11_251 : Int32) (V : cr_Hp) : Option ((Int32 × Int32) ⊕ Int32) :=
  if x11_251 ≤ 0 then (some (.inr x10_251)) else (if r85 = 0 then (some (.inr x10_251)) else (cr_bd (cr_it (fun (q : Int32 × Int32) => f_L_same_l264 a2_ a3_ a4_ x1 x5_34 z0_58 n66 n76 r85 x11_251 q.1 q.2 V) cr_FU (x10_251, (0 : Int32))) (fun (u10_264_352 : Int32) => some (.inl (u10_264_352, (x11_251 + (-1 : Int32)))))))
set_option maxRecDepth 100000 in
set_option maxHeartbeats 4000000 in
theorem t_L_same_l251 {p : Program} {l : Launch} {e : Env} {s : State} {m : MethodId} {args : Array Value} {below : List Frame} {meth : Method} {c : Code} {w : cr_Wd} {Q : State → Prop} (X : cr_Cx w RL (Cond.code yL_same cL_same 15 (some .boolean)) cL_same 15 p s m args meth c) (a2_ : Nat) (a3_ : Nat) (a4_ : Nat) (x1 : Int32) (x5_34 : Int32) (z0_58 : Int32) (n66 : Int32) (n76 : Int32) (r85 : Int32) (x10_251 : Int32) (x11_251 : Int32) (V : cr_Hp) (ha2_ : cr_iv w 8 a2_) (ha3_ : cr_iv w 60 a3_) (ha4_ : cr_iv w 12 a4_) (x : (Int32 × Int32) ⊕ Int32) (h : f_L_same_l251 a2_ a3_ a4_ x1 x5_34 z0_58 n66 n76 r85 x10_251 x11_251 V = some x) (kl : ∀ (x10_251 : Int32) (x11_251 : Int32), x = .inl (x10_251, x11_251) → cr_J w 15 p l e rm_L_same s m args below meth c 0 0 Q V 251 [(0, .ref (w.1 152)), (1, .int x1), (2, .ref (w.1 a2_)), (3, .ref (w.1 a3_)), (4, .ref (w.1 a4_)), (5, .int x5_34), (6, .int z0_58), (7, .int n66), (8, .int n76), (9, .int r85), (10, .int x10_251), (11, .int x11_251)] []) (kr358 : ∀ (u10_251_358 : Int32), x = .inr u10_251_358 → cr_J w 15 p l e rm_L_same s m args below meth c 0 0 Q V 358 [(0, .ref (w.1 152)), (1, .int x1), (2, .ref (w.1 a2_)), (3, .ref (w.1 a3_)), (4, .ref (w.1 a4_)), (5, .int x5_34), (6, .int z0_58), (10, .int u10_251_358)] []) : cr_J w 15 p l e rm_L_same s m args below meth c 0 0 Q V 251 [(0, .ref (w.1 152)), (1, .int x1), (2, .ref (w.1 a2_)), (3, .ref (w.1 a3_)), (4, .ref (w.1 a4_)), (5, .int x5_34), (6, .int z0_58), (7, .int n66), (8, .int n76), (9, .int r85), (10, .int x10_251), (11, .int x11_251)] [] := by
  unfold f_L_same_l251 at h
  refine jr_iload X.c dL_same_251 11 rfl ?_
  refine jr_if_le X.c 358 dL_same_253 (by decide) (fun q253 => ?_) (fun q253 => ?_)
  · replace h := cr_if_t q253 h
    cases h
    refine jr_sub [0, 1, 2, 3, 4, 5, 6, 10] rfl ?_
    exact kr358 x10_251 rfl
  · replace h := cr_if_f q253 h
    refine jr_iload X.c dL_same_256 9 rfl ?_
    refine jr_if_eq X.c 358 dL_same_258 (by decide) (fun q258 => ?_) (fun q258 => ?_)
    · replace h := cr_if_t q258 h
      cases h
      refine jr_sub [0, 1, 2, 3, 4, 5, 6, 10] rfl ?_
      exact kr358 x10_251 rfl
    · replace h := cr_if_f q258 h
      refine jr_iconst X.c (v := (0 : Int32)) dL_same_261 (by decide) ?_
      refine jr_istore X.c (lv2 := [(12, .int (0 : Int32)), (0, .ref (w.1 152)), (1, .int x1), (2, .ref (w.1 a2_)), (3, .ref (w.1 a3_)), (4, .ref (w.1 a4_)), (5, .int x5_34), (6, .int z0_58), (7, .int n66), (8, .int n76), (9, .int r85), (10, .int x10_251), (11, .int x11_251)]) dL_same_262 (by decide) rfl ?_
      obtain ⟨e264, he264, h⟩ := cr_bd_s h
      have kx352 : ∀ (u10_264_352 : Int32), e264 = u10_264_352 → cr_J w 15 p l e rm_L_same s m args below meth c 0 0 Q V 352 [(0, .ref (w.1 152)), (1, .int x1), (2, .ref (w.1 a2_)), (3, .ref (w.1 a3_)), (4, .ref (w.1 a4_)), (5, .int x5_34), (6, .int z0_58), (7, .int n66), (8, .int n76), (9, .int r85), (10, .int u10_264_352), (11, .int x11_251)] [] := by
        intro u10_264_352 qx
        rw [qx] at h
        refine jr_iinc X.c (v := (x11_251 + (-1 : Int32))) (lv2 := [(11, .int (x11_251 + (-1 : Int32))), (0, .ref (w.1 152)), (1, .int x1), (2, .ref (w.1 a2_)), (3, .ref (w.1 a3_)), (4, .ref (w.1 a4_)), (5, .int x5_34), (6, .int z0_58), (7, .int n66), (8, .int n76), (9, .int r85), (10, .int u10_264_352)]) dL_same_352 11 rfl (by rfl) (by decide) rfl ?_
        refine jr_goto X.c 251 dL_same_355 (by decide) ?_
        cases h
        refine jr_sub [1, 2, 3, 4, 5, 6, 7, 8, 9, 10, 11, 0] rfl ?_
        exact kl u10_264_352 (x11_251 + (-1 : Int32)) rfl
      refine jr_sub [1, 2, 3, 4, 5, 6, 7, 8, 9, 10, 11, 12, 0] rfl ?_
      refine cr_it_W (f := (fun (q : Int32 × Int32) => f_L_same_l264 a2_ a3_ a4_ x1 x5_34 z0_58 n66 n76 r85 x11_251 q.1 q.2 V)) (P := fun (q : Int32 × Int32) => cr_J w 15 p l e rm_L_same s m args below meth c 0 0 Q V 264 [(0, .ref (w.1 152)), (1, .int x1), (2, .ref (w.1 a2_)), (3, .ref (w.1 a3_)), (4, .ref (w.1 a4_)), (5, .int x5_34), (6, .int z0_58), (7, .int n66), (8, .int n76), (9, .int r85), (10, .int q.1), (11, .int x11_251), (12, .int q.2)] []) (K := fun z => z = e264) (fun q x hx kl kr => ?_) cr_FU (x10_251, (0 : Int32)) e264 he264 rfl
      obtain ⟨x10_264, x12_264⟩ := q
      exact t_L_same_l264 X a2_ a3_ a4_ x1 x5_34 z0_58 n66 n76 r85 x11_251 x10_264 x12_264 V ha2_ ha3_ ha4_ x hx (fun x10_264 x12_264 ez => kl _ ez) (fun u10_264_352 ez => kx352 u10_264_352 ((kr _ ez).symm))
def f_L_same_b377 (a2_ : Nat) (a3_ : Nat) (a4_ : Nat) (x1 : Int32) (x5_34 : Int32) (r361 : Int32) (z0_377 : Int32) (V : cr_Hp) : Option (Int32 ⊕ Unit) :=
  if r361 = z0_377 then (some (.inl (x5_34 + (1 : Int32)))) else (none)
set_option maxRecDepth 100000 in
set_option maxHeartbeats 4000000 in
theorem t_L_same_b377 {p : Program} {l : Launch} {e : Env} {s : State} {m : MethodId} {args : Array Value} {below : List Frame} {meth : Method} {c : Code} {w : cr_Wd} {Q : State → Prop} (X : cr_Cx w RL (Cond.code yL_same cL_same 15 (some .boolean)) cL_same 15 p s m args meth c) (a2_ : Nat) (a3_ : Nat) (a4_ : Nat) (x1 : Int32) (x5_34 : Int32) (r361 : Int32) (z0_377 : Int32) (V : cr_Hp) (ha2_ : cr_iv w 8 a2_) (ha3_ : cr_iv w 60 a3_) (ha4_ : cr_iv w 12 a4_) (x : Int32 ⊕ Unit) (h : f_L_same_b377 a2_ a3_ a4_ x1 x5_34 r361 z0_377 V = some x) (kl : ∀ (x5_34 : Int32), x = .inl x5_34 → cr_J w 15 p l e rm_L_same s m args below meth c 0 0 Q V 34 [(0, .ref (w.1 152)), (1, .int x1), (2, .ref (w.1 a2_)), (3, .ref (w.1 a3_)), (4, .ref (w.1 a4_)), (5, .int x5_34)] []) (kr388 : x = .inr () → cr_J w 15 p l e rm_L_same s m args below meth c 0 0 Q V 388 [(0, .ref (w.1 152)), (1, .int x1), (2, .ref (w.1 a2_)), (3, .ref (w.1 a3_)), (4, .ref (w.1 a4_))] []) : cr_J w 15 p l e rm_L_same s m args below meth c 0 0 Q V 377 [(0, .ref (w.1 152)), (1, .int x1), (2, .ref (w.1 a2_)), (3, .ref (w.1 a3_)), (4, .ref (w.1 a4_)), (5, .int x5_34)] [.int z0_377, .int r361] := by
  unfold f_L_same_b377 at h
  refine jr_icmp_eq X.c 382 dL_same_377 (by decide) (fun q377 => ?_) (fun q377 => ?_)
  · replace h := cr_if_t q377 h
    refine jr_iinc X.c (v := (x5_34 + (1 : Int32))) (lv2 := [(5, .int (x5_34 + (1 : Int32))), (0, .ref (w.1 152)), (1, .int x1), (2, .ref (w.1 a2_)), (3, .ref (w.1 a3_)), (4, .ref (w.1 a4_))]) dL_same_382 5 rfl (by rfl) (by decide) rfl ?_
    refine jr_goto X.c 34 dL_same_385 (by decide) ?_
    cases h
    refine jr_sub [1, 2, 3, 4, 5, 0] rfl ?_
    exact kl (x5_34 + (1 : Int32)) rfl
  · replace h := cr_if_f q377 h
    cases h
def f_L_same_b358 (a2_ : Nat) (a3_ : Nat) (a4_ : Nat) (x1 : Int32) (x5_34 : Int32) (z0_58 : Int32) (u10_251_358 : Int32) (V : cr_Hp) : Option (Int32 ⊕ Unit) :=
  cr_bd (f_X7_wayOut x5_34 V) (fun (r361 : Int32) => if z0_58 = 0 then (f_L_same_b377 a2_ a3_ a4_ x1 x5_34 r361 (-1003 : Int32) V) else (f_L_same_b377 a2_ a3_ a4_ x1 x5_34 r361 u10_251_358 V))
set_option maxRecDepth 100000 in
set_option maxHeartbeats 4000000 in
theorem t_L_same_b358 {p : Program} {l : Launch} {e : Env} {s : State} {m : MethodId} {args : Array Value} {below : List Frame} {meth : Method} {c : Code} {w : cr_Wd} {Q : State → Prop} (X : cr_Cx w RL (Cond.code yL_same cL_same 15 (some .boolean)) cL_same 15 p s m args meth c) (a2_ : Nat) (a3_ : Nat) (a4_ : Nat) (x1 : Int32) (x5_34 : Int32) (z0_58 : Int32) (u10_251_358 : Int32) (V : cr_Hp) (ha2_ : cr_iv w 8 a2_) (ha3_ : cr_iv w 60 a3_) (ha4_ : cr_iv w 12 a4_) (x : Int32 ⊕ Unit) (h : f_L_same_b358 a2_ a3_ a4_ x1 x5_34 z0_58 u10_251_358 V = some x) (kl : ∀ (x5_34 : Int32), x = .inl x5_34 → cr_J w 15 p l e rm_L_same s m args below meth c 0 0 Q V 34 [(0, .ref (w.1 152)), (1, .int x1), (2, .ref (w.1 a2_)), (3, .ref (w.1 a3_)), (4, .ref (w.1 a4_)), (5, .int x5_34)] []) (kr388 : x = .inr () → cr_J w 15 p l e rm_L_same s m args below meth c 0 0 Q V 388 [(0, .ref (w.1 152)), (1, .int x1), (2, .ref (w.1 a2_)), (3, .ref (w.1 a3_)), (4, .ref (w.1 a4_))] []) : cr_J w 15 p l e rm_L_same s m args below meth c 0 0 Q V 358 [(0, .ref (w.1 152)), (1, .int x1), (2, .ref (w.1 a2_)), (3, .ref (w.1 a3_)), (4, .ref (w.1 a4_)), (5, .int x5_34), (6, .int z0_58), (10, .int u10_251_358)] [] := by
  unfold f_L_same_b358 at h
  refine jr_aload_n X.c dL_same_358 rfl 0 rfl ?_
  refine jr_iload X.c dL_same_359 5 rfl ?_
  obtain ⟨r361, hr361, h⟩ := cr_bd_s h
  refine jc_Vi X.c (As := [.int x5_34]) (V1 := V) (C := RX7) (T := TX7) (N := 5) (ci := 7) 1 (m_X7_wayOut l w V x5_34  r361 hr361) ⟨rfl, rfl⟩ ml_L_42 im_X7_wayOut sl_X7_wayOut in_X7 cd_X7_wayOut hd_X7_wayOut ⟨Nat.le_of_ble_eq_true rfl, Nat.le_of_ble_eq_true rfl⟩ ⟨Nat.le_of_ble_eq_true rfl, Nat.le_of_ble_eq_true rfl⟩ rfl (Nat.le_of_ble_eq_true rfl) (Or.inl (by decide)) ((cr_row_152 w) _) rfl rfl dL_same_361 ?_
  refine jr_iload X.c dL_same_364 6 rfl ?_
  refine jr_if_eq X.c 374 dL_same_366 (by decide) (fun q366 => ?_) (fun q366 => ?_)
  · replace h := cr_if_t q366 h
    refine jr_sipush X.c (v := (-1003 : Int32)) dL_same_374 (by decide) ?_
    refine jr_sub [0, 1, 2, 3, 4, 5] rfl ?_
    exact t_L_same_b377 X a2_ a3_ a4_ x1 x5_34 r361 (-1003 : Int32) V ha2_ ha3_ ha4_ x h kl kr388
  · replace h := cr_if_f q366 h
    refine jr_iload X.c dL_same_369 7 rfl ?_
    refine jr_goto X.c 377 dL_same_371 (by decide) ?_
    refine jr_sub [0, 1, 2, 3, 4, 5] rfl ?_
    exact t_L_same_b377 X a2_ a3_ a4_ x1 x5_34 r361 u10_251_358 V ha2_ ha3_ ha4_ x h kl kr388
def f_L_same_b245 (a2_ : Nat) (a3_ : Nat) (a4_ : Nat) (x1 : Int32) (x5_34 : Int32) (z0_58 : Int32) (n66 : Int32) (n76 : Int32) (r85 : Int32) (z0_245 : Int32) (V : cr_Hp) : Option (Int32 ⊕ Unit) :=
  cr_bd (cr_it (fun (q : Int32 × Int32) => f_L_same_l251 a2_ a3_ a4_ x1 x5_34 z0_58 n66 n76 r85 q.1 q.2 V) cr_FU (z0_245, (30 : Int32))) (fun (u10_251_358 : Int32) => f_L_same_b358 a2_ a3_ a4_ x1 x5_34 z0_58 u10_251_358 V)
set_option maxRecDepth 100000 in
set_option maxHeartbeats 4000000 in
theorem t_L_same_b245 {p : Program} {l : Launch} {e : Env} {s : State} {m : MethodId} {args : Array Value} {below : List Frame} {meth : Method} {c : Code} {w : cr_Wd} {Q : State → Prop} (X : cr_Cx w RL (Cond.code yL_same cL_same 15 (some .boolean)) cL_same 15 p s m args meth c) (a2_ : Nat) (a3_ : Nat) (a4_ : Nat) (x1 : Int32) (x5_34 : Int32) (z0_58 : Int32) (n66 : Int32) (n76 : Int32) (r85 : Int32) (z0_245 : Int32) (V : cr_Hp) (ha2_ : cr_iv w 8 a2_) (ha3_ : cr_iv w 60 a3_) (ha4_ : cr_iv w 12 a4_) (x : Int32 ⊕ Unit) (h : f_L_same_b245 a2_ a3_ a4_ x1 x5_34 z0_58 n66 n76 r85 z0_245 V = some x) (kl : ∀ (x5_34 : Int32), x = .inl x5_34 → cr_J w 15 p l e rm_L_same s m args below meth c 0 0 Q V 34 [(0, .ref (w.1 152)), (1, .int x1), (2, .ref (w.1 a2_)), (3, .ref (w.1 a3_)), (4, .ref (w.1 a4_)), (5, .int x5_34)] []) (kr388 : x = .inr () → cr_J w 15 p l e rm_L_same s m args below meth c 0 0 Q V 388 [(0, .ref (w.1 152)), (1, .int x1), (2, .ref (w.1 a2_)), (3, .ref (w.1 a3_)), (4, .ref (w.1 a4_))] []) : cr_J w 15 p l e rm_L_same s m args below meth c 0 0 Q V 245 [(0, .ref (w.1 152)), (1, .int x1), (2, .ref (w.1 a2_)), (3, .ref (w.1 a3_)), (4, .ref (w.1 a4_)), (5, .int x5_34), (6, .int z0_58), (7, .int n66), (8, .int n76), (9, .int r85)] [.int z0_245] := by
  unfold f_L_same_b245 at h
  refine jr_istore X.c (lv2 := [(10, .int z0_245), (0, .ref (w.1 152)), (1, .int x1), (2, .ref (w.1 a2_)), (3, .ref (w.1 a3_)), (4, .ref (w.1 a4_)), (5, .int x5_34), (6, .int z0_58), (7, .int n66), (8, .int n76), (9, .int r85)]) dL_same_245 (by decide) rfl ?_
  refine jr_bipush X.c (v := (30 : Int32)) dL_same_247 (by decide) ?_
  refine jr_istore X.c (lv2 := [(11, .int (30 : Int32)), (10, .int z0_245), (0, .ref (w.1 152)), (1, .int x1), (2, .ref (w.1 a2_)), (3, .ref (w.1 a3_)), (4, .ref (w.1 a4_)), (5, .int x5_34), (6, .int z0_58), (7, .int n66), (8, .int n76), (9, .int r85)]) dL_same_249 (by decide) rfl ?_
  obtain ⟨e251, he251, h⟩ := cr_bd_s h
  have kx358 : ∀ (u10_251_358 : Int32), e251 = u10_251_358 → cr_J w 15 p l e rm_L_same s m args below meth c 0 0 Q V 358 [(0, .ref (w.1 152)), (1, .int x1), (2, .ref (w.1 a2_)), (3, .ref (w.1 a3_)), (4, .ref (w.1 a4_)), (5, .int x5_34), (6, .int z0_58), (10, .int u10_251_358)] [] := by
    intro u10_251_358 qx
    rw [qx] at h
    refine jr_sub [0, 1, 2, 3, 4, 5, 6, 7] rfl ?_
    exact t_L_same_b358 X a2_ a3_ a4_ x1 x5_34 z0_58 u10_251_358 V ha2_ ha3_ ha4_ x h kl kr388
  refine jr_sub [2, 3, 4, 5, 6, 7, 8, 9, 10, 11, 1, 0] rfl ?_
  refine cr_it_W (f := (fun (q : Int32 × Int32) => f_L_same_l251 a2_ a3_ a4_ x1 x5_34 z0_58 n66 n76 r85 q.1 q.2 V)) (P := fun (q : Int32 × Int32) => cr_J w 15 p l e rm_L_same s m args below meth c 0 0 Q V 251 [(0, .ref (w.1 152)), (1, .int x1), (2, .ref (w.1 a2_)), (3, .ref (w.1 a3_)), (4, .ref (w.1 a4_)), (5, .int x5_34), (6, .int z0_58), (7, .int n66), (8, .int n76), (9, .int r85), (10, .int q.1), (11, .int q.2)] []) (K := fun z => z = e251) (fun q x hx kl kr => ?_) cr_FU (z0_245, (30 : Int32)) e251 he251 rfl
  obtain ⟨x10_251, x11_251⟩ := q
  exact t_L_same_l251 X a2_ a3_ a4_ x1 x5_34 z0_58 n66 n76 r85 x10_251 x11_251 V ha2_ ha3_ ha4_ x hx (fun x10_251 x11_251 ez => kl _ ez) (fun u10_251_358 ez => kx358 u10_251_358 ((kr _ ez).symm))
def f_L_same_b233 (a2_ : Nat) (a3_ : Nat) (a4_ : Nat) (x1 : Int32) (x5_34 : Int32) (z0_58 : Int32) (n66 : Int32) (n76 : Int32) (r85 : Int32) (V : cr_Hp) : Option (Int32 ⊕ Unit) :=
  if r85 = 0 then (f_L_same_b245 a2_ a3_ a4_ x1 x5_34 z0_58 n66 n76 r85 (0 : Int32) V) else (f_L_same_b245 a2_ a3_ a4_ x1 x5_34 z0_58 n66 n76 r85 (-1006 : Int32) V)
set_option maxRecDepth 100000 in
set_option maxHeartbeats 4000000 in
theorem t_L_same_b233 {p : Program} {l : Launch} {e : Env} {s : State} {m : MethodId} {args : Array Value} {below : List Frame} {meth : Method} {c : Code} {w : cr_Wd} {Q : State → Prop} (X : cr_Cx w RL (Cond.code yL_same cL_same 15 (some .boolean)) cL_same 15 p s m args meth c) (a2_ : Nat) (a3_ : Nat) (a4_ : Nat) (x1 : Int32) (x5_34 : Int32) (z0_58 : Int32) (n66 : Int32) (n76 : Int32) (r85 : Int32) (V : cr_Hp) (ha2_ : cr_iv w 8 a2_) (ha3_ : cr_iv w 60 a3_) (ha4_ : cr_iv w 12 a4_) (x : Int32 ⊕ Unit) (h : f_L_same_b233 a2_ a3_ a4_ x1 x5_34 z0_58 n66 n76 r85 V = some x) (kl : ∀ (x5_34 : Int32), x = .inl x5_34 → cr_J w 15 p l e rm_L_same s m args below meth c 0 0 Q V 34 [(0, .ref (w.1 152)), (1, .int x1), (2, .ref (w.1 a2_)), (3, .ref (w.1 a3_)), (4, .ref (w.1 a4_)), (5, .int x5_34)] []) (kr388 : x = .inr () → cr_J w 15 p l e rm_L_same s m args below meth c 0 0 Q V 388 [(0, .ref (w.1 152)), (1, .int x1), (2, .ref (w.1 a2_)), (3, .ref (w.1 a3_)), (4, .ref (w.1 a4_))] []) : cr_J w 15 p l e rm_L_same s m args below meth c 0 0 Q V 233 [(0, .ref (w.1 152)), (1, .int x1), (2, .ref (w.1 a2_)), (3, .ref (w.1 a3_)), (4, .ref (w.1 a4_)), (5, .int x5_34), (6, .int z0_58), (7, .int n66), (8, .int n76), (9, .int r85)] [] := by
  unfold f_L_same_b233 at h
  refine jr_iload X.c dL_same_233 9 rfl ?_
  refine jr_if_ne X.c 242 dL_same_235 (by decide) (fun q235 => ?_) (fun q235 => ?_)
  · replace h := cr_if_f q235 h
    refine jr_sipush X.c (v := (-1006 : Int32)) dL_same_242 (by decide) ?_
    refine jr_sub [0, 1, 2, 3, 4, 5, 6, 7, 8, 9] rfl ?_
    exact t_L_same_b245 X a2_ a3_ a4_ x1 x5_34 z0_58 n66 n76 r85 (-1006 : Int32) V ha2_ ha3_ ha4_ x h kl kr388
  · replace h := cr_if_t q235 h
    refine jr_iconst X.c (v := (0 : Int32)) dL_same_238 (by decide) ?_
    refine jr_goto X.c 245 dL_same_239 (by decide) ?_
    refine jr_sub [0, 1, 2, 3, 4, 5, 6, 7, 8, 9] rfl ?_
    exact t_L_same_b245 X a2_ a3_ a4_ x1 x5_34 z0_58 n66 n76 r85 (0 : Int32) V ha2_ ha3_ ha4_ x h kl kr388
def f_L_same_b210 (a2_ : Nat) (a3_ : Nat) (a4_ : Nat) (x1 : Int32) (x5_34 : Int32) (z0_58 : Int32) (n66 : Int32) (n76 : Int32) (r85 : Int32) (r194 : Int32) (z0_210 : Int32) (V : cr_Hp) : Option (Int32 ⊕ Unit) :=
  if r194 = z0_210 then (if z0_58 = 0 then (f_L_same_b233 a2_ a3_ a4_ x1 x5_34 z0_58 n66 n76 r85 V) else (cr_bd (f_X7_at n66 n76 V) (fun (r223 : Int32) => if r223 = x5_34 then (f_L_same_b233 a2_ a3_ a4_ x1 x5_34 z0_58 n66 n76 r85 V) else (none)))) else (none)
set_option maxRecDepth 100000 in
set_option maxHeartbeats 4000000 in
theorem t_L_same_b210 {p : Program} {l : Launch} {e : Env} {s : State} {m : MethodId} {args : Array Value} {below : List Frame} {meth : Method} {c : Code} {w : cr_Wd} {Q : State → Prop} (X : cr_Cx w RL (Cond.code yL_same cL_same 15 (some .boolean)) cL_same 15 p s m args meth c) (a2_ : Nat) (a3_ : Nat) (a4_ : Nat) (x1 : Int32) (x5_34 : Int32) (z0_58 : Int32) (n66 : Int32) (n76 : Int32) (r85 : Int32) (r194 : Int32) (z0_210 : Int32) (V : cr_Hp) (ha2_ : cr_iv w 8 a2_) (ha3_ : cr_iv w 60 a3_) (ha4_ : cr_iv w 12 a4_) (x : Int32 ⊕ Unit) (h : f_L_same_b210 a2_ a3_ a4_ x1 x5_34 z0_58 n66 n76 r85 r194 z0_210 V = some x) (kl : ∀ (x5_34 : Int32), x = .inl x5_34 → cr_J w 15 p l e rm_L_same s m args below meth c 0 0 Q V 34 [(0, .ref (w.1 152)), (1, .int x1), (2, .ref (w.1 a2_)), (3, .ref (w.1 a3_)), (4, .ref (w.1 a4_)), (5, .int x5_34)] []) (kr388 : x = .inr () → cr_J w 15 p l e rm_L_same s m args below meth c 0 0 Q V 388 [(0, .ref (w.1 152)), (1, .int x1), (2, .ref (w.1 a2_)), (3, .ref (w.1 a3_)), (4, .ref (w.1 a4_))] []) : cr_J w 15 p l e rm_L_same s m args below meth c 0 0 Q V 210 [(0, .ref (w.1 152)), (1, .int x1), (2, .ref (w.1 a2_)), (3, .ref (w.1 a3_)), (4, .ref (w.1 a4_)), (5, .int x5_34), (6, .int z0_58), (7, .int n66), (8, .int n76), (9, .int r85)] [.int z0_210, .int r194] := by
  unfold f_L_same_b210 at h
  refine jr_icmp_ne X.c 231 dL_same_210 (by decide) (fun q210 => ?_) (fun q210 => ?_)
  · replace h := cr_if_f q210 h
    cases h
  · replace h := cr_if_t q210 h
    refine jr_iload X.c dL_same_213 6 rfl ?_
    refine jr_if_eq X.c 233 dL_same_215 (by decide) (fun q215 => ?_) (fun q215 => ?_)
    · replace h := cr_if_t q215 h
      refine jr_sub [0, 1, 2, 3, 4, 5, 6, 7, 8, 9] rfl ?_
      exact t_L_same_b233 X a2_ a3_ a4_ x1 x5_34 z0_58 n66 n76 r85 V ha2_ ha3_ ha4_ x h kl kr388
    · replace h := cr_if_f q215 h
      refine jr_aload_n X.c dL_same_218 rfl 0 rfl ?_
      refine jr_iload X.c dL_same_219 7 rfl ?_
      refine jr_iload X.c dL_same_221 8 rfl ?_
      obtain ⟨r223, hr223, h⟩ := cr_bd_s h
      refine jc_Vi X.c (As := [.int n66, .int n76]) (V1 := V) (C := RX7) (T := TX7) (N := 5) (ci := 7) 2 (m_X7_at l w V n66 n76  r223 hr223) ⟨rfl, rfl⟩ ml_L_40 im_X7_at sl_X7_at in_X7 cd_X7_at hd_X7_at ⟨Nat.le_of_ble_eq_true rfl, Nat.le_of_ble_eq_true rfl⟩ ⟨Nat.le_of_ble_eq_true rfl, Nat.le_of_ble_eq_true rfl⟩ rfl (Nat.le_of_ble_eq_true rfl) (Or.inl (by decide)) ((cr_row_152 w) _) rfl rfl dL_same_223 ?_
      refine jr_iload X.c dL_same_226 5 rfl ?_
      refine jr_icmp_eq X.c 233 dL_same_228 (by decide) (fun q228 => ?_) (fun q228 => ?_)
      · replace h := cr_if_t q228 h
        refine jr_sub [0, 1, 2, 3, 4, 5, 6, 7, 8, 9] rfl ?_
        exact t_L_same_b233 X a2_ a3_ a4_ x1 x5_34 z0_58 n66 n76 r85 V ha2_ ha3_ ha4_ x h kl kr388
      · replace h := cr_if_f q228 h
        cases h
def f_L_same_b133 (a2_ : Nat) (a3_ : Nat) (a4_ : Nat) (x1 : Int32) (x5_34 : Int32) (z0_58 : Int32) (n66 : Int32) (n76 : Int32) (r85 : Int32) (r117 : Int32) (z0_133 : Int32) (V : cr_Hp) : Option (Int32 ⊕ Unit) :=
  if r117 = z0_133 then (cr_bd (f_X7_marble x5_34 (2 : Int32) V) (fun (r140 : Int32) => cr_gd (cr_ix (((5 : Int32) * x5_34) + (2 : Int32)) 60) (if r140 = (V a3_ (((5 : Int32) * x5_34) + (2 : Int32)).toNatClampNeg) then (cr_bd (f_X7_marble x5_34 (3 : Int32) V) (fun (r158 : Int32) => cr_gd (cr_ix (((5 : Int32) * x5_34) + (3 : Int32)) 60) (if r158 = (V a3_ (((5 : Int32) * x5_34) + (3 : Int32)).toNatClampNeg) then (cr_bd (f_X7_marble x5_34 (4 : Int32) V) (fun (r176 : Int32) => cr_gd (cr_ix (((5 : Int32) * x5_34) + (4 : Int32)) 60) (if r176 = (V a3_ (((5 : Int32) * x5_34) + (4 : Int32)).toNatClampNeg) then (cr_bd (f_X7_marble x5_34 (5 : Int32) V) (fun (r194 : Int32) => if z0_58 = 0 then (f_L_same_b210 a2_ a3_ a4_ x1 x5_34 z0_58 n66 n76 r85 r194 (-1006 : Int32) V) else (f_L_same_b210 a2_ a3_ a4_ x1 x5_34 z0_58 n66 n76 r85 r194 r85 V))) else (none)))) else (none)))) else (none)))) else (none)
set_option maxRecDepth 100000 in
set_option maxHeartbeats 4000000 in
theorem t_L_same_b133 {p : Program} {l : Launch} {e : Env} {s : State} {m : MethodId} {args : Array Value} {below : List Frame} {meth : Method} {c : Code} {w : cr_Wd} {Q : State → Prop} (X : cr_Cx w RL (Cond.code yL_same cL_same 15 (some .boolean)) cL_same 15 p s m args meth c) (a2_ : Nat) (a3_ : Nat) (a4_ : Nat) (x1 : Int32) (x5_34 : Int32) (z0_58 : Int32) (n66 : Int32) (n76 : Int32) (r85 : Int32) (r117 : Int32) (z0_133 : Int32) (V : cr_Hp) (ha2_ : cr_iv w 8 a2_) (ha3_ : cr_iv w 60 a3_) (ha4_ : cr_iv w 12 a4_) (x : Int32 ⊕ Unit) (h : f_L_same_b133 a2_ a3_ a4_ x1 x5_34 z0_58 n66 n76 r85 r117 z0_133 V = some x) (kl : ∀ (x5_34 : Int32), x = .inl x5_34 → cr_J w 15 p l e rm_L_same s m args below meth c 0 0 Q V 34 [(0, .ref (w.1 152)), (1, .int x1), (2, .ref (w.1 a2_)), (3, .ref (w.1 a3_)), (4, .ref (w.1 a4_)), (5, .int x5_34)] []) (kr388 : x = .inr () → cr_J w 15 p l e rm_L_same s m args below meth c 0 0 Q V 388 [(0, .ref (w.1 152)), (1, .int x1), (2, .ref (w.1 a2_)), (3, .ref (w.1 a3_)), (4, .ref (w.1 a4_))] []) : cr_J w 15 p l e rm_L_same s m args below meth c 0 0 Q V 133 [(0, .ref (w.1 152)), (1, .int x1), (2, .ref (w.1 a2_)), (3, .ref (w.1 a3_)), (4, .ref (w.1 a4_)), (5, .int x5_34), (6, .int z0_58), (7, .int n66), (8, .int n76), (9, .int r85)] [.int z0_133, .int r117] := by
  unfold f_L_same_b133 at h
  refine jr_icmp_ne X.c 231 dL_same_133 (by decide) (fun q133 => ?_) (fun q133 => ?_)
  · replace h := cr_if_f q133 h
    cases h
  · replace h := cr_if_t q133 h
    refine jr_aload_n X.c dL_same_136 rfl 0 rfl ?_
    refine jr_iload X.c dL_same_137 5 rfl ?_
    refine jr_iconst X.c (v := (2 : Int32)) dL_same_139 (by decide) ?_
    obtain ⟨r140, hr140, h⟩ := cr_bd_s h
    refine jc_Vi X.c (As := [.int x5_34, .int (2 : Int32)]) (V1 := V) (C := RX7) (T := TX7) (N := 5) (ci := 7) 2 (m_X7_marble l w V x5_34 (2 : Int32)  r140 hr140) ⟨rfl, rfl⟩ ml_L_37 im_X7_marble sl_X7_marble in_X7 cd_X7_marble hd_X7_marble ⟨Nat.le_of_ble_eq_true rfl, Nat.le_of_ble_eq_true rfl⟩ ⟨Nat.le_of_ble_eq_true rfl, Nat.le_of_ble_eq_true rfl⟩ rfl (Nat.le_of_ble_eq_true rfl) (Or.inl (by decide)) ((cr_row_152 w) _) rfl rfl dL_same_140 ?_
    refine jr_aload_n X.c dL_same_143 rfl 3 rfl ?_
    refine jr_iconst X.c (v := (5 : Int32)) dL_same_144 (by decide) ?_
    refine jr_iload X.c dL_same_145 5 rfl ?_
    refine jr_imul X.c dL_same_147 ?_
    refine jr_iconst X.c (v := (2 : Int32)) dL_same_148 (by decide) ?_
    refine jr_iadd X.c dL_same_149 ?_
    obtain ⟨hi150, h⟩ := cr_gd_s h
    refine jr_iald X.c (cr_l_iv ha3_) ((cr_row_iv ha3_) _) hi150 dL_same_150 ?_
    refine jr_icmp_ne X.c 231 dL_same_151 (by decide) (fun q151 => ?_) (fun q151 => ?_)
    · replace h := cr_if_f q151 h
      cases h
    · replace h := cr_if_t q151 h
      refine jr_aload_n X.c dL_same_154 rfl 0 rfl ?_
      refine jr_iload X.c dL_same_155 5 rfl ?_
      refine jr_iconst X.c (v := (3 : Int32)) dL_same_157 (by decide) ?_
      obtain ⟨r158, hr158, h⟩ := cr_bd_s h
      refine jc_Vi X.c (As := [.int x5_34, .int (3 : Int32)]) (V1 := V) (C := RX7) (T := TX7) (N := 5) (ci := 7) 2 (m_X7_marble l w V x5_34 (3 : Int32)  r158 hr158) ⟨rfl, rfl⟩ ml_L_37 im_X7_marble sl_X7_marble in_X7 cd_X7_marble hd_X7_marble ⟨Nat.le_of_ble_eq_true rfl, Nat.le_of_ble_eq_true rfl⟩ ⟨Nat.le_of_ble_eq_true rfl, Nat.le_of_ble_eq_true rfl⟩ rfl (Nat.le_of_ble_eq_true rfl) (Or.inl (by decide)) ((cr_row_152 w) _) rfl rfl dL_same_158 ?_
      refine jr_aload_n X.c dL_same_161 rfl 3 rfl ?_
      refine jr_iconst X.c (v := (5 : Int32)) dL_same_162 (by decide) ?_
      refine jr_iload X.c dL_same_163 5 rfl ?_
      refine jr_imul X.c dL_same_165 ?_
      refine jr_iconst X.c (v := (3 : Int32)) dL_same_166 (by decide) ?_
      refine jr_iadd X.c dL_same_167 ?_
      obtain ⟨hi168, h⟩ := cr_gd_s h
      refine jr_iald X.c (cr_l_iv ha3_) ((cr_row_iv ha3_) _) hi168 dL_same_168 ?_
      refine jr_icmp_ne X.c 231 dL_same_169 (by decide) (fun q169 => ?_) (fun q169 => ?_)
      · replace h := cr_if_f q169 h
        cases h
      · replace h := cr_if_t q169 h
        refine jr_aload_n X.c dL_same_172 rfl 0 rfl ?_
        refine jr_iload X.c dL_same_173 5 rfl ?_
        refine jr_iconst X.c (v := (4 : Int32)) dL_same_175 (by decide) ?_
        obtain ⟨r176, hr176, h⟩ := cr_bd_s h
        refine jc_Vi X.c (As := [.int x5_34, .int (4 : Int32)]) (V1 := V) (C := RX7) (T := TX7) (N := 5) (ci := 7) 2 (m_X7_marble l w V x5_34 (4 : Int32)  r176 hr176) ⟨rfl, rfl⟩ ml_L_37 im_X7_marble sl_X7_marble in_X7 cd_X7_marble hd_X7_marble ⟨Nat.le_of_ble_eq_true rfl, Nat.le_of_ble_eq_true rfl⟩ ⟨Nat.le_of_ble_eq_true rfl, Nat.le_of_ble_eq_true rfl⟩ rfl (Nat.le_of_ble_eq_true rfl) (Or.inl (by decide)) ((cr_row_152 w) _) rfl rfl dL_same_176 ?_
        refine jr_aload_n X.c dL_same_179 rfl 3 rfl ?_
        refine jr_iconst X.c (v := (5 : Int32)) dL_same_180 (by decide) ?_
        refine jr_iload X.c dL_same_181 5 rfl ?_
        refine jr_imul X.c dL_same_183 ?_
        refine jr_iconst X.c (v := (4 : Int32)) dL_same_184 (by decide) ?_
        refine jr_iadd X.c dL_same_185 ?_
        obtain ⟨hi186, h⟩ := cr_gd_s h
        refine jr_iald X.c (cr_l_iv ha3_) ((cr_row_iv ha3_) _) hi186 dL_same_186 ?_
        refine jr_icmp_ne X.c 231 dL_same_187 (by decide) (fun q187 => ?_) (fun q187 => ?_)
        · replace h := cr_if_f q187 h
          cases h
        · replace h := cr_if_t q187 h
          refine jr_aload_n X.c dL_same_190 rfl 0 rfl ?_
          refine jr_iload X.c dL_same_191 5 rfl ?_
          refine jr_iconst X.c (v := (5 : Int32)) dL_same_193 (by decide) ?_
          obtain ⟨r194, hr194, h⟩ := cr_bd_s h
          refine jc_Vi X.c (As := [.int x5_34, .int (5 : Int32)]) (V1 := V) (C := RX7) (T := TX7) (N := 5) (ci := 7) 2 (m_X7_marble l w V x5_34 (5 : Int32)  r194 hr194) ⟨rfl, rfl⟩ ml_L_37 im_X7_marble sl_X7_marble in_X7 cd_X7_marble hd_X7_marble ⟨Nat.le_of_ble_eq_true rfl, Nat.le_of_ble_eq_true rfl⟩ ⟨Nat.le_of_ble_eq_true rfl, Nat.le_of_ble_eq_true rfl⟩ rfl (Nat.le_of_ble_eq_true rfl) (Or.inl (by decide)) ((cr_row_152 w) _) rfl rfl dL_same_194 ?_
          refine jr_iload X.c dL_same_197 6 rfl ?_
          refine jr_if_eq X.c 207 dL_same_199 (by decide) (fun q199 => ?_) (fun q199 => ?_)
          · replace h := cr_if_t q199 h
            refine jr_sipush X.c (v := (-1006 : Int32)) dL_same_207 (by decide) ?_
            refine jr_sub [0, 1, 2, 3, 4, 5, 6, 7, 8, 9] rfl ?_
            exact t_L_same_b210 X a2_ a3_ a4_ x1 x5_34 z0_58 n66 n76 r85 r194 (-1006 : Int32) V ha2_ ha3_ ha4_ x h kl kr388
          · replace h := cr_if_f q199 h
            refine jr_iload X.c dL_same_202 9 rfl ?_
            refine jr_goto X.c 210 dL_same_204 (by decide) ?_
            refine jr_sub [0, 1, 2, 3, 4, 5, 6, 7, 8, 9] rfl ?_
            exact t_L_same_b210 X a2_ a3_ a4_ x1 x5_34 z0_58 n66 n76 r85 r194 r85 V ha2_ ha3_ ha4_ x h kl kr388
def f_L_same_b110 (a2_ : Nat) (a3_ : Nat) (a4_ : Nat) (x1 : Int32) (x5_34 : Int32) (z0_58 : Int32) (n66 : Int32) (n76 : Int32) (r85 : Int32) (r94 : Int32) (z0_110 : Int32) (V : cr_Hp) : Option (Int32 ⊕ Unit) :=
  if r94 = z0_110 then (cr_bd (f_X7_marble x5_34 (1 : Int32) V) (fun (r117 : Int32) => if z0_58 = 0 then (f_L_same_b133 a2_ a3_ a4_ x1 x5_34 z0_58 n66 n76 r85 r117 (-1006 : Int32) V) else (f_L_same_b133 a2_ a3_ a4_ x1 x5_34 z0_58 n66 n76 r85 r117 n76 V))) else (none)
set_option maxRecDepth 100000 in
set_option maxHeartbeats 4000000 in
theorem t_L_same_b110 {p : Program} {l : Launch} {e : Env} {s : State} {m : MethodId} {args : Array Value} {below : List Frame} {meth : Method} {c : Code} {w : cr_Wd} {Q : State → Prop} (X : cr_Cx w RL (Cond.code yL_same cL_same 15 (some .boolean)) cL_same 15 p s m args meth c) (a2_ : Nat) (a3_ : Nat) (a4_ : Nat) (x1 : Int32) (x5_34 : Int32) (z0_58 : Int32) (n66 : Int32) (n76 : Int32) (r85 : Int32) (r94 : Int32) (z0_110 : Int32) (V : cr_Hp) (ha2_ : cr_iv w 8 a2_) (ha3_ : cr_iv w 60 a3_) (ha4_ : cr_iv w 12 a4_) (x : Int32 ⊕ Unit) (h : f_L_same_b110 a2_ a3_ a4_ x1 x5_34 z0_58 n66 n76 r85 r94 z0_110 V = some x) (kl : ∀ (x5_34 : Int32), x = .inl x5_34 → cr_J w 15 p l e rm_L_same s m args below meth c 0 0 Q V 34 [(0, .ref (w.1 152)), (1, .int x1), (2, .ref (w.1 a2_)), (3, .ref (w.1 a3_)), (4, .ref (w.1 a4_)), (5, .int x5_34)] []) (kr388 : x = .inr () → cr_J w 15 p l e rm_L_same s m args below meth c 0 0 Q V 388 [(0, .ref (w.1 152)), (1, .int x1), (2, .ref (w.1 a2_)), (3, .ref (w.1 a3_)), (4, .ref (w.1 a4_))] []) : cr_J w 15 p l e rm_L_same s m args below meth c 0 0 Q V 110 [(0, .ref (w.1 152)), (1, .int x1), (2, .ref (w.1 a2_)), (3, .ref (w.1 a3_)), (4, .ref (w.1 a4_)), (5, .int x5_34), (6, .int z0_58), (7, .int n66), (8, .int n76), (9, .int r85)] [.int z0_110, .int r94] := by
  unfold f_L_same_b110 at h
  refine jr_icmp_ne X.c 231 dL_same_110 (by decide) (fun q110 => ?_) (fun q110 => ?_)
  · replace h := cr_if_f q110 h
    cases h
  · replace h := cr_if_t q110 h
    refine jr_aload_n X.c dL_same_113 rfl 0 rfl ?_
    refine jr_iload X.c dL_same_114 5 rfl ?_
    refine jr_iconst X.c (v := (1 : Int32)) dL_same_116 (by decide) ?_
    obtain ⟨r117, hr117, h⟩ := cr_bd_s h
    refine jc_Vi X.c (As := [.int x5_34, .int (1 : Int32)]) (V1 := V) (C := RX7) (T := TX7) (N := 5) (ci := 7) 2 (m_X7_marble l w V x5_34 (1 : Int32)  r117 hr117) ⟨rfl, rfl⟩ ml_L_37 im_X7_marble sl_X7_marble in_X7 cd_X7_marble hd_X7_marble ⟨Nat.le_of_ble_eq_true rfl, Nat.le_of_ble_eq_true rfl⟩ ⟨Nat.le_of_ble_eq_true rfl, Nat.le_of_ble_eq_true rfl⟩ rfl (Nat.le_of_ble_eq_true rfl) (Or.inl (by decide)) ((cr_row_152 w) _) rfl rfl dL_same_117 ?_
    refine jr_iload X.c dL_same_120 6 rfl ?_
    refine jr_if_eq X.c 130 dL_same_122 (by decide) (fun q122 => ?_) (fun q122 => ?_)
    · replace h := cr_if_t q122 h
      refine jr_sipush X.c (v := (-1006 : Int32)) dL_same_130 (by decide) ?_
      refine jr_sub [0, 1, 2, 3, 4, 5, 6, 7, 8, 9] rfl ?_
      exact t_L_same_b133 X a2_ a3_ a4_ x1 x5_34 z0_58 n66 n76 r85 r117 (-1006 : Int32) V ha2_ ha3_ ha4_ x h kl kr388
    · replace h := cr_if_f q122 h
      refine jr_iload X.c dL_same_125 8 rfl ?_
      refine jr_goto X.c 133 dL_same_127 (by decide) ?_
      refine jr_sub [0, 1, 2, 3, 4, 5, 6, 7, 8, 9] rfl ?_
      exact t_L_same_b133 X a2_ a3_ a4_ x1 x5_34 z0_58 n66 n76 r85 r117 n76 V ha2_ ha3_ ha4_ x h kl kr388
def f_L_same_b58 (a2_ : Nat) (a3_ : Nat) (a4_ : Nat) (x1 : Int32) (x5_34 : Int32) (z0_58 : Int32) (V : cr_Hp) : Option (Int32 ⊕ Unit) :=
  cr_gd (cr_ix ((5 : Int32) * x5_34) 60) (cr_lt ((V a3_ ((5 : Int32) * x5_34).toNatClampNeg)) (fun (n66 : Int32) => cr_gd (cr_ix (((5 : Int32) * x5_34) + (1 : Int32)) 60) (cr_lt ((V a3_ (((5 : Int32) * x5_34) + (1 : Int32)).toNatClampNeg)) (fun (n76 : Int32) => cr_bd (f_L_rings a2_ a4_ n66 n76 V) (fun (r85 : Int32) => cr_bd (f_X7_marble x5_34 (0 : Int32) V) (fun (r94 : Int32) => if z0_58 = 0 then (f_L_same_b110 a2_ a3_ a4_ x1 x5_34 z0_58 n66 n76 r85 r94 (-1006 : Int32) V) else (f_L_same_b110 a2_ a3_ a4_ x1 x5_34 z0_58 n66 n76 r85 r94 n66 V)))))))
set_option maxRecDepth 100000 in
set_option maxHeartbeats 4000000 in
theorem t_L_same_b58 {p : Program} {l : Launch} {e : Env} {s : State} {m : MethodId} {args : Array Value} {below : List Frame} {meth : Method} {c : Code} {w : cr_Wd} {Q : State → Prop} (X : cr_Cx w RL (Cond.code yL_same cL_same 15 (some .boolean)) cL_same 15 p s m args meth c) (a2_ : Nat) (a3_ : Nat) (a4_ : Nat) (x1 : Int32) (x5_34 : Int32) (z0_58 : Int32) (V : cr_Hp) (ha2_ : cr_iv w 8 a2_) (ha3_ : cr_iv w 60 a3_) (ha4_ : cr_iv w 12 a4_) (x : Int32 ⊕ Unit) (h : f_L_same_b58 a2_ a3_ a4_ x1 x5_34 z0_58 V = some x) (kl : ∀ (x5_34 : Int32), x = .inl x5_34 → cr_J w 15 p l e rm_L_same s m args below meth c 0 0 Q V 34 [(0, .ref (w.1 152)), (1, .int x1), (2, .ref (w.1 a2_)), (3, .ref (w.1 a3_)), (4, .ref (w.1 a4_)), (5, .int x5_34)] []) (kr388 : x = .inr () → cr_J w 15 p l e rm_L_same s m args below meth c 0 0 Q V 388 [(0, .ref (w.1 152)), (1, .int x1), (2, .ref (w.1 a2_)), (3, .ref (w.1 a3_)), (4, .ref (w.1 a4_))] []) : cr_J w 15 p l e rm_L_same s m args below meth c 0 0 Q V 58 [(0, .ref (w.1 152)), (1, .int x1), (2, .ref (w.1 a2_)), (3, .ref (w.1 a3_)), (4, .ref (w.1 a4_)), (5, .int x5_34)] [.int z0_58] := by
  unfold f_L_same_b58 at h
  refine jr_istore X.c (lv2 := [(6, .int z0_58), (0, .ref (w.1 152)), (1, .int x1), (2, .ref (w.1 a2_)), (3, .ref (w.1 a3_)), (4, .ref (w.1 a4_)), (5, .int x5_34)]) dL_same_58 (by decide) rfl ?_
  refine jr_aload_n X.c dL_same_60 rfl 4 rfl ?_
  refine jr_iconst X.c (v := (5 : Int32)) dL_same_61 (by decide) ?_
  refine jr_iload X.c dL_same_62 6 rfl ?_
  refine jr_imul X.c dL_same_64 ?_
  obtain ⟨hi65, h⟩ := cr_gd_s h
  refine jr_iald X.c (cr_l_iv ha3_) ((cr_row_iv ha3_) _) hi65 dL_same_65 ?_
  obtain ⟨n66, en66, h⟩ := cr_lt_s h
  refine jr_top en66 ?_
  refine jr_istore X.c (lv2 := [(7, .int n66), (6, .int z0_58), (0, .ref (w.1 152)), (1, .int x1), (2, .ref (w.1 a2_)), (3, .ref (w.1 a3_)), (4, .ref (w.1 a4_)), (5, .int x5_34)]) dL_same_66 (by decide) rfl ?_
  refine jr_aload_n X.c dL_same_68 rfl 5 rfl ?_
  refine jr_iconst X.c (v := (5 : Int32)) dL_same_69 (by decide) ?_
  refine jr_iload X.c dL_same_70 7 rfl ?_
  refine jr_imul X.c dL_same_72 ?_
  refine jr_iconst X.c (v := (1 : Int32)) dL_same_73 (by decide) ?_
  refine jr_iadd X.c dL_same_74 ?_
  obtain ⟨hi75, h⟩ := cr_gd_s h
  refine jr_iald X.c (cr_l_iv ha3_) ((cr_row_iv ha3_) _) hi75 dL_same_75 ?_
  obtain ⟨n76, en76, h⟩ := cr_lt_s h
  refine jr_top en76 ?_
  refine jr_istore X.c (lv2 := [(8, .int n76), (7, .int n66), (6, .int z0_58), (0, .ref (w.1 152)), (1, .int x1), (2, .ref (w.1 a2_)), (3, .ref (w.1 a3_)), (4, .ref (w.1 a4_)), (5, .int x5_34)]) dL_same_76 (by decide) rfl ?_
  refine jr_iload X.c dL_same_78 1 rfl ?_
  refine jr_iload X.c dL_same_80 0 rfl ?_
  refine jr_aload_n X.c dL_same_82 rfl 5 rfl ?_
  refine jr_aload X.c dL_same_83 7 rfl ?_
  obtain ⟨r85, hr85, h⟩ := cr_bd_s h
  refine jc_Si X.c (As := [.int n66, .int n76, .ref (w.1 a2_), .ref (w.1 a4_)]) (V1 := V) 4 (m_L_rings l w V a2_ a4_ n66 n76 ha2_ ha4_ r85 hr85) ⟨rfl, rfl⟩ ml_L_16 st_L_rings in_L cd_L_rings hd_L_rings ⟨Nat.le_of_ble_eq_true rfl, Nat.le_of_ble_eq_true rfl⟩ ⟨Nat.le_of_ble_eq_true rfl, Nat.le_of_ble_eq_true rfl⟩ rfl (Nat.le_of_ble_eq_true rfl) rfl dL_same_85 ?_
  refine jr_istore X.c (lv2 := [(9, .int r85), (8, .int n76), (7, .int n66), (6, .int z0_58), (0, .ref (w.1 152)), (1, .int x1), (2, .ref (w.1 a2_)), (3, .ref (w.1 a3_)), (4, .ref (w.1 a4_)), (5, .int x5_34)]) dL_same_88 (by decide) rfl ?_
  refine jr_aload_n X.c dL_same_90 rfl 4 rfl ?_
  refine jr_iload X.c dL_same_91 9 rfl ?_
  refine jr_iconst X.c (v := (0 : Int32)) dL_same_93 (by decide) ?_
  obtain ⟨r94, hr94, h⟩ := cr_bd_s h
  refine jc_Vi X.c (As := [.int x5_34, .int (0 : Int32)]) (V1 := V) (C := RX7) (T := TX7) (N := 5) (ci := 7) 2 (m_X7_marble l w V x5_34 (0 : Int32)  r94 hr94) ⟨rfl, rfl⟩ ml_L_37 im_X7_marble sl_X7_marble in_X7 cd_X7_marble hd_X7_marble ⟨Nat.le_of_ble_eq_true rfl, Nat.le_of_ble_eq_true rfl⟩ ⟨Nat.le_of_ble_eq_true rfl, Nat.le_of_ble_eq_true rfl⟩ rfl (Nat.le_of_ble_eq_true rfl) (Or.inl (by decide)) ((cr_row_152 w) _) rfl rfl dL_same_94 ?_
  refine jr_iload X.c dL_same_97 3 rfl ?_
  refine jr_if_eq X.c 107 dL_same_99 (by decide) (fun q99 => ?_) (fun q99 => ?_)
  · replace h := cr_if_t q99 h
    refine jr_sipush X.c (v := (-1006 : Int32)) dL_same_107 (by decide) ?_
    refine jr_sub [4, 5, 6, 7, 8, 9, 3, 2, 1, 0] rfl ?_
    exact t_L_same_b110 X a2_ a3_ a4_ x1 x5_34 z0_58 n66 n76 r85 r94 (-1006 : Int32) V ha2_ ha3_ ha4_ x h kl kr388
  · replace h := cr_if_f q99 h
    refine jr_iload X.c dL_same_102 2 rfl ?_
    refine jr_goto X.c 110 dL_same_104 (by decide) ?_
    refine jr_sub [4, 5, 6, 7, 8, 9, 3, 2, 1, 0] rfl ?_
    exact t_L_same_b110 X a2_ a3_ a4_ x1 x5_34 z0_58 n66 n76 r85 r94 n66 V ha2_ ha3_ ha4_ x h kl kr388
def f_L_same_l34 (a2_ : Nat) (a3_ : Nat) (a4_ : Nat) (x1 : Int32) (x5_34 : Int32) (V : cr_Hp) : Option (Int32 ⊕ Unit) :=
  cr_gd (cr_ix (0 : Int32) 8) (if (V a2_ (0 : Int32).toNatClampNeg) ≤ x5_34 then (some (.inr ())) else (cr_gd (cr_ix (((5 : Int32) * x5_34) + (4 : Int32)) 60) (if 0 ≤ (V a3_ (((5 : Int32) * x5_34) + (4 : Int32)).toNatClampNeg) then (f_L_same_b58 a2_ a3_ a4_ x1 x5_34 (0 : Int32) V) else (f_L_same_b58 a2_ a3_ a4_ x1 x5_34 (1 : Int32) V))))
set_option maxRecDepth 100000 in
set_option maxHeartbeats 4000000 in
theorem t_L_same_l34 {p : Program} {l : Launch} {e : Env} {s : State} {m : MethodId} {args : Array Value} {below : List Frame} {meth : Method} {c : Code} {w : cr_Wd} {Q : State → Prop} (X : cr_Cx w RL (Cond.code yL_same cL_same 15 (some .boolean)) cL_same 15 p s m args meth c) (a2_ : Nat) (a3_ : Nat) (a4_ : Nat) (x1 : Int32) (x5_34 : Int32) (V : cr_Hp) (ha2_ : cr_iv w 8 a2_) (ha3_ : cr_iv w 60 a3_) (ha4_ : cr_iv w 12 a4_) (x : Int32 ⊕ Unit) (h : f_L_same_l34 a2_ a3_ a4_ x1 x5_34 V = some x) (kl : ∀ (x5_34 : Int32), x = .inl x5_34 → cr_J w 15 p l e rm_L_same s m args below meth c 0 0 Q V 34 [(0, .ref (w.1 152)), (1, .int x1), (2, .ref (w.1 a2_)), (3, .ref (w.1 a3_)), (4, .ref (w.1 a4_)), (5, .int x5_34)] []) (kr388 : x = .inr () → cr_J w 15 p l e rm_L_same s m args below meth c 0 0 Q V 388 [(0, .ref (w.1 152)), (1, .int x1), (2, .ref (w.1 a2_)), (3, .ref (w.1 a3_)), (4, .ref (w.1 a4_))] []) : cr_J w 15 p l e rm_L_same s m args below meth c 0 0 Q V 34 [(0, .ref (w.1 152)), (1, .int x1), (2, .ref (w.1 a2_)), (3, .ref (w.1 a3_)), (4, .ref (w.1 a4_)), (5, .int x5_34)] [] := by
  unfold f_L_same_l34 at h
  refine jr_iload X.c dL_same_34 5 rfl ?_
  refine jr_aload_n X.c dL_same_36 rfl 2 rfl ?_
  refine jr_iconst X.c (v := (0 : Int32)) dL_same_37 (by decide) ?_
  obtain ⟨hi38, h⟩ := cr_gd_s h
  refine jr_iald X.c (cr_l_iv ha2_) ((cr_row_iv ha2_) _) hi38 dL_same_38 ?_
  refine jr_icmp_ge X.c 388 dL_same_39 (by decide) (fun q39 => ?_) (fun q39 => ?_)
  · replace h := cr_if_t q39 h
    cases h
    refine jr_sub [0, 1, 2, 3, 4] rfl ?_
    exact kr388  rfl
  · replace h := cr_if_f q39 h
    refine jr_aload_n X.c dL_same_42 rfl 3 rfl ?_
    refine jr_iconst X.c (v := (5 : Int32)) dL_same_43 (by decide) ?_
    refine jr_iload X.c dL_same_44 5 rfl ?_
    refine jr_imul X.c dL_same_46 ?_
    refine jr_iconst X.c (v := (4 : Int32)) dL_same_47 (by decide) ?_
    refine jr_iadd X.c dL_same_48 ?_
    obtain ⟨hi49, h⟩ := cr_gd_s h
    refine jr_iald X.c (cr_l_iv ha3_) ((cr_row_iv ha3_) _) hi49 dL_same_49 ?_
    refine jr_if_ge X.c 57 dL_same_50 (by decide) (fun q50 => ?_) (fun q50 => ?_)
    · replace h := cr_if_t q50 h
      refine jr_iconst X.c (v := (0 : Int32)) dL_same_57 (by decide) ?_
      refine jr_sub [0, 1, 2, 3, 4, 5] rfl ?_
      exact t_L_same_b58 X a2_ a3_ a4_ x1 x5_34 (0 : Int32) V ha2_ ha3_ ha4_ x h kl kr388
    · replace h := cr_if_f q50 h
      refine jr_iconst X.c (v := (1 : Int32)) dL_same_53 (by decide) ?_
      refine jr_goto X.c 58 dL_same_54 (by decide) ?_
      refine jr_sub [0, 1, 2, 3, 4, 5] rfl ?_
      exact t_L_same_b58 X a2_ a3_ a4_ x1 x5_34 (1 : Int32) V ha2_ ha3_ ha4_ x h kl kr388
def f_L_same_l408 (a2_ : Nat) (a3_ : Nat) (a4_ : Nat) (x1 : Int32) (x5_391 : Int32) (x6_408 : Int32) (x8_408 : Int32) (V : cr_Hp) : Option ((Int32 × Int32) ⊕ Int32) :=
  cr_gd (cr_ix (0 : Int32) 8) (if (V a2_ (0 : Int32).toNatClampNeg) ≤ x8_408 then (some (.inr x6_408)) else (cr_gd (cr_ix (((5 : Int32) * x8_408) + (4 : Int32)) 60) (if 0 ≤ (V a3_ (((5 : Int32) * x8_408) + (4 : Int32)).toNatClampNeg) then (some (.inl ((x6_408 ||| (0 : Int32)), (x8_408 + (1 : Int32))))) else (cr_gd (cr_ix ((5 : Int32) * x8_408) 60) (cr_gd (cr_ix (((5 : Int32) * x8_408) + (1 : Int32)) 60) (cr_bd (f_L_in a4_ x5_391 (V a3_ ((5 : Int32) * x8_408).toNatClampNeg) (V a3_ (((5 : Int32) * x8_408) + (1 : Int32)).toNatClampNeg) V) (fun (r447 : Int32) => if r447 = 0 then (some (.inl ((x6_408 ||| (0 : Int32)), (x8_408 + (1 : Int32))))) else (some (.inl ((x6_408 ||| ((1 : Int32) <<< (x8_408 &&& 31))), (x8_408 + (1 : Int32))))))))))))
set_option maxRecDepth 100000 in
set_option maxHeartbeats 4000000 in
theorem t_L_same_l408 {p : Program} {l : Launch} {e : Env} {s : State} {m : MethodId} {args : Array Value} {below : List Frame} {meth : Method} {c : Code} {w : cr_Wd} {Q : State → Prop} (X : cr_Cx w RL (Cond.code yL_same cL_same 15 (some .boolean)) cL_same 15 p s m args meth c) (a2_ : Nat) (a3_ : Nat) (a4_ : Nat) (x1 : Int32) (x5_391 : Int32) (x6_408 : Int32) (x8_408 : Int32) (V : cr_Hp) (ha2_ : cr_iv w 8 a2_) (ha3_ : cr_iv w 60 a3_) (ha4_ : cr_iv w 12 a4_) (x : (Int32 × Int32) ⊕ Int32) (h : f_L_same_l408 a2_ a3_ a4_ x1 x5_391 x6_408 x8_408 V = some x) (kl : ∀ (x6_408 : Int32) (x8_408 : Int32), x = .inl (x6_408, x8_408) → cr_J w 15 p l e rm_L_same s m args below meth c 0 0 Q V 408 [(0, .ref (w.1 152)), (1, .int x1), (2, .ref (w.1 a2_)), (3, .ref (w.1 a3_)), (4, .ref (w.1 a4_)), (5, .int x5_391), (6, .int x6_408), (7, .int (0 : Int32)), (8, .int x8_408)] []) (kr470 : ∀ (u6_408_470 : Int32), x = .inr u6_408_470 → cr_J w 15 p l e rm_L_same s m args below meth c 0 0 Q V 470 [(0, .ref (w.1 152)), (1, .int x1), (2, .ref (w.1 a2_)), (3, .ref (w.1 a3_)), (4, .ref (w.1 a4_)), (5, .int x5_391), (6, .int u6_408_470), (7, .int (0 : Int32))] []) : cr_J w 15 p l e rm_L_same s m args below meth c 0 0 Q V 408 [(0, .ref (w.1 152)), (1, .int x1), (2, .ref (w.1 a2_)), (3, .ref (w.1 a3_)), (4, .ref (w.1 a4_)), (5, .int x5_391), (6, .int x6_408), (7, .int (0 : Int32)), (8, .int x8_408)] [] := by
  unfold f_L_same_l408 at h
  refine jr_iload X.c dL_same_408 8 rfl ?_
  refine jr_aload_n X.c dL_same_410 rfl 2 rfl ?_
  refine jr_iconst X.c (v := (0 : Int32)) dL_same_411 (by decide) ?_
  obtain ⟨hi412, h⟩ := cr_gd_s h
  refine jr_iald X.c (cr_l_iv ha2_) ((cr_row_iv ha2_) _) hi412 dL_same_412 ?_
  refine jr_icmp_ge X.c 470 dL_same_413 (by decide) (fun q413 => ?_) (fun q413 => ?_)
  · replace h := cr_if_t q413 h
    cases h
    refine jr_sub [0, 1, 2, 3, 4, 5, 6, 7] rfl ?_
    exact kr470 x6_408 rfl
  · replace h := cr_if_f q413 h
    refine jr_iload X.c dL_same_416 6 rfl ?_
    refine jr_aload_n X.c dL_same_418 rfl 3 rfl ?_
    refine jr_iconst X.c (v := (5 : Int32)) dL_same_419 (by decide) ?_
    refine jr_iload X.c dL_same_420 8 rfl ?_
    refine jr_imul X.c dL_same_422 ?_
    refine jr_iconst X.c (v := (4 : Int32)) dL_same_423 (by decide) ?_
    refine jr_iadd X.c dL_same_424 ?_
    obtain ⟨hi425, h⟩ := cr_gd_s h
    refine jr_iald X.c (cr_l_iv ha3_) ((cr_row_iv ha3_) _) hi425 dL_same_425 ?_
    refine jr_if_ge X.c 460 dL_same_426 (by decide) (fun q426 => ?_) (fun q426 => ?_)
    · replace h := cr_if_t q426 h
      refine jr_iconst X.c (v := (0 : Int32)) dL_same_460 (by decide) ?_
      refine jr_ior X.c dL_same_461 ?_
      refine jr_istore X.c (lv2 := [(6, .int (x6_408 ||| (0 : Int32))), (0, .ref (w.1 152)), (1, .int x1), (2, .ref (w.1 a2_)), (3, .ref (w.1 a3_)), (4, .ref (w.1 a4_)), (5, .int x5_391), (7, .int (0 : Int32)), (8, .int x8_408)]) dL_same_462 (by decide) rfl ?_
      refine jr_iinc X.c (v := (x8_408 + (1 : Int32))) (lv2 := [(8, .int (x8_408 + (1 : Int32))), (6, .int (x6_408 ||| (0 : Int32))), (0, .ref (w.1 152)), (1, .int x1), (2, .ref (w.1 a2_)), (3, .ref (w.1 a3_)), (4, .ref (w.1 a4_)), (5, .int x5_391), (7, .int (0 : Int32))]) dL_same_464 8 rfl (by rfl) (by decide) rfl ?_
      refine jr_goto X.c 408 dL_same_467 (by decide) ?_
      cases h
      refine jr_sub [2, 3, 4, 5, 6, 7, 1, 8, 0] rfl ?_
      exact kl (x6_408 ||| (0 : Int32)) (x8_408 + (1 : Int32)) rfl
    · replace h := cr_if_f q426 h
      refine jr_iload X.c dL_same_429 5 rfl ?_
      refine jr_aload_n X.c dL_same_431 rfl 3 rfl ?_
      refine jr_iconst X.c (v := (5 : Int32)) dL_same_432 (by decide) ?_
      refine jr_iload X.c dL_same_433 8 rfl ?_
      refine jr_imul X.c dL_same_435 ?_
      obtain ⟨hi436, h⟩ := cr_gd_s h
      refine jr_iald X.c (cr_l_iv ha3_) ((cr_row_iv ha3_) _) hi436 dL_same_436 ?_
      refine jr_aload_n X.c dL_same_437 rfl 3 rfl ?_
      refine jr_iconst X.c (v := (5 : Int32)) dL_same_438 (by decide) ?_
      refine jr_iload X.c dL_same_439 8 rfl ?_
      refine jr_imul X.c dL_same_441 ?_
      refine jr_iconst X.c (v := (1 : Int32)) dL_same_442 (by decide) ?_
      refine jr_iadd X.c dL_same_443 ?_
      obtain ⟨hi444, h⟩ := cr_gd_s h
      refine jr_iald X.c (cr_l_iv ha3_) ((cr_row_iv ha3_) _) hi444 dL_same_444 ?_
      refine jr_aload X.c dL_same_445 4 rfl ?_
      obtain ⟨r447, hr447, h⟩ := cr_bd_s h
      refine jc_Si X.c (As := [.int x5_391, .int (V a3_ ((5 : Int32) * x8_408).toNatClampNeg), .int (V a3_ (((5 : Int32) * x8_408) + (1 : Int32)).toNatClampNeg), .ref (w.1 a4_)]) (V1 := V) 4 (m_L_in l w V a4_ x5_391 (V a3_ ((5 : Int32) * x8_408).toNatClampNeg) (V a3_ (((5 : Int32) * x8_408) + (1 : Int32)).toNatClampNeg) ha4_ r447 hr447) ⟨rfl, rfl⟩ ml_L_10 st_L_in in_L cd_L_in hd_L_in ⟨Nat.le_of_ble_eq_true rfl, Nat.le_of_ble_eq_true rfl⟩ ⟨Nat.le_of_ble_eq_true rfl, Nat.le_of_ble_eq_true rfl⟩ rfl (Nat.le_of_ble_eq_true rfl) rfl dL_same_447 ?_
      refine jr_if_eq X.c 460 dL_same_450 (by decide) (fun q450 => ?_) (fun q450 => ?_)
      · replace h := cr_if_t q450 h
        refine jr_iconst X.c (v := (0 : Int32)) dL_same_460 (by decide) ?_
        refine jr_ior X.c dL_same_461 ?_
        refine jr_istore X.c (lv2 := [(6, .int (x6_408 ||| (0 : Int32))), (0, .ref (w.1 152)), (1, .int x1), (2, .ref (w.1 a2_)), (3, .ref (w.1 a3_)), (4, .ref (w.1 a4_)), (5, .int x5_391), (7, .int (0 : Int32)), (8, .int x8_408)]) dL_same_462 (by decide) rfl ?_
        refine jr_iinc X.c (v := (x8_408 + (1 : Int32))) (lv2 := [(8, .int (x8_408 + (1 : Int32))), (6, .int (x6_408 ||| (0 : Int32))), (0, .ref (w.1 152)), (1, .int x1), (2, .ref (w.1 a2_)), (3, .ref (w.1 a3_)), (4, .ref (w.1 a4_)), (5, .int x5_391), (7, .int (0 : Int32))]) dL_same_464 8 rfl (by rfl) (by decide) rfl ?_
        refine jr_goto X.c 408 dL_same_467 (by decide) ?_
        cases h
        refine jr_sub [2, 3, 4, 5, 6, 7, 1, 8, 0] rfl ?_
        exact kl (x6_408 ||| (0 : Int32)) (x8_408 + (1 : Int32)) rfl
      · replace h := cr_if_f q450 h
        refine jr_iconst X.c (v := (1 : Int32)) dL_same_453 (by decide) ?_
        refine jr_iload X.c dL_same_454 8 rfl ?_
        refine jr_ishl X.c dL_same_456 ?_
        refine jr_goto X.c 461 dL_same_457 (by decide) ?_
        refine jr_ior X.c dL_same_461 ?_
        refine jr_istore X.c (lv2 := [(6, .int (x6_408 ||| ((1 : Int32) <<< (x8_408 &&& 31)))), (0, .ref (w.1 152)), (1, .int x1), (2, .ref (w.1 a2_)), (3, .ref (w.1 a3_)), (4, .ref (w.1 a4_)), (5, .int x5_391), (7, .int (0 : Int32)), (8, .int x8_408)]) dL_same_462 (by decide) rfl ?_
        refine jr_iinc X.c (v := (x8_408 + (1 : Int32))) (lv2 := [(8, .int (x8_408 + (1 : Int32))), (6, .int (x6_408 ||| ((1 : Int32) <<< (x8_408 &&& 31)))), (0, .ref (w.1 152)), (1, .int x1), (2, .ref (w.1 a2_)), (3, .ref (w.1 a3_)), (4, .ref (w.1 a4_)), (5, .int x5_391), (7, .int (0 : Int32))]) dL_same_464 8 rfl (by rfl) (by decide) rfl ?_
        refine jr_goto X.c 408 dL_same_467 (by decide) ?_
        cases h
        refine jr_sub [2, 3, 4, 5, 6, 7, 1, 8, 0] rfl ?_
        exact kl (x6_408 ||| ((1 : Int32) <<< (x8_408 &&& 31))) (x8_408 + (1 : Int32)) rfl
def f_L_same_l473 (a2_ : Nat) (a3_ : Nat) (a4_ : Nat) (x1 : Int32) (x5_391 : Int32) (u6_408_470 : Int32) (x7_473 : Int32) (x8_473 : Int32) (V : cr_Hp) : Option ((Int32 × Int32) ⊕ Int32) :=
  if (961 : Int32) ≤ x8_473 then (some (.inr x7_473)) else (cr_bd (f_L_in a4_ x5_391 (x8_473 / (31 : Int32)) (x8_473 - x8_473 / (31 : Int32) * (31 : Int32)) V) (fun (r497 : Int32) => if r497 = 0 then (some (.inl ((x7_473 + (0 : Int32)), (x8_473 + (1 : Int32))))) else (some (.inl ((x7_473 + (1 : Int32)), (x8_473 + (1 : Int32)))))))
set_option maxRecDepth 100000 in
set_option maxHeartbeats 4000000 in
theorem t_L_same_l473 {p : Program} {l : Launch} {e : Env} {s : State} {m : MethodId} {args : Array Value} {below : List Frame} {meth : Method} {c : Code} {w : cr_Wd} {Q : State → Prop} (X : cr_Cx w RL (Cond.code yL_same cL_same 15 (some .boolean)) cL_same 15 p s m args meth c) (a2_ : Nat) (a3_ : Nat) (a4_ : Nat) (x1 : Int32) (x5_391 : Int32) (u6_408_470 : Int32) (x7_473 : Int32) (x8_473 : Int32) (V : cr_Hp) (ha2_ : cr_iv w 8 a2_) (ha3_ : cr_iv w 60 a3_) (ha4_ : cr_iv w 12 a4_) (x : (Int32 × Int32) ⊕ Int32) (h : f_L_same_l473 a2_ a3_ a4_ x1 x5_391 u6_408_470 x7_473 x8_473 V = some x) (kl : ∀ (x7_473 : Int32) (x8_473 : Int32), x = .inl (x7_473, x8_473) → cr_J w 15 p l e rm_L_same s m args below meth c 0 0 Q V 473 [(0, .ref (w.1 152)), (1, .int x1), (2, .ref (w.1 a2_)), (3, .ref (w.1 a3_)), (4, .ref (w.1 a4_)), (5, .int x5_391), (6, .int u6_408_470), (7, .int x7_473), (8, .int x8_473)] []) (kr517 : ∀ (u7_473_517 : Int32), x = .inr u7_473_517 → cr_J w 15 p l e rm_L_same s m args below meth c 0 0 Q V 517 [(0, .ref (w.1 152)), (1, .int x1), (2, .ref (w.1 a2_)), (3, .ref (w.1 a3_)), (4, .ref (w.1 a4_)), (5, .int x5_391), (6, .int u6_408_470), (7, .int u7_473_517)] []) : cr_J w 15 p l e rm_L_same s m args below meth c 0 0 Q V 473 [(0, .ref (w.1 152)), (1, .int x1), (2, .ref (w.1 a2_)), (3, .ref (w.1 a3_)), (4, .ref (w.1 a4_)), (5, .int x5_391), (6, .int u6_408_470), (7, .int x7_473), (8, .int x8_473)] [] := by
  unfold f_L_same_l473 at h
  refine jr_iload X.c dL_same_473 8 rfl ?_
  refine jr_sipush X.c (v := (961 : Int32)) dL_same_475 (by decide) ?_
  refine jr_icmp_ge X.c 517 dL_same_478 (by decide) (fun q478 => ?_) (fun q478 => ?_)
  · replace h := cr_if_t q478 h
    cases h
    refine jr_sub [0, 1, 2, 3, 4, 5, 6, 7] rfl ?_
    exact kr517 x7_473 rfl
  · replace h := cr_if_f q478 h
    refine jr_iload X.c dL_same_481 7 rfl ?_
    refine jr_iload X.c dL_same_483 5 rfl ?_
    refine jr_iload X.c dL_same_485 8 rfl ?_
    refine jr_bipush X.c (v := (31 : Int32)) dL_same_487 (by decide) ?_
    refine jr_idiv X.c dL_same_489 (by decide) ?_
    refine jr_iload X.c dL_same_490 8 rfl ?_
    refine jr_bipush X.c (v := (31 : Int32)) dL_same_492 (by decide) ?_
    refine jr_irem X.c dL_same_494 (by decide) ?_
    refine jr_aload X.c dL_same_495 4 rfl ?_
    obtain ⟨r497, hr497, h⟩ := cr_bd_s h
    refine jc_Si X.c (As := [.int x5_391, .int (x8_473 / (31 : Int32)), .int (x8_473 - x8_473 / (31 : Int32) * (31 : Int32)), .ref (w.1 a4_)]) (V1 := V) 4 (m_L_in l w V a4_ x5_391 (x8_473 / (31 : Int32)) (x8_473 - x8_473 / (31 : Int32) * (31 : Int32)) ha4_ r497 hr497) ⟨rfl, rfl⟩ ml_L_10 st_L_in in_L cd_L_in hd_L_in ⟨Nat.le_of_ble_eq_true rfl, Nat.le_of_ble_eq_true rfl⟩ ⟨Nat.le_of_ble_eq_true rfl, Nat.le_of_ble_eq_true rfl⟩ rfl (Nat.le_of_ble_eq_true rfl) rfl dL_same_497 ?_
    refine jr_if_eq X.c 507 dL_same_500 (by decide) (fun q500 => ?_) (fun q500 => ?_)
    · replace h := cr_if_t q500 h
      refine jr_iconst X.c (v := (0 : Int32)) dL_same_507 (by decide) ?_
      refine jr_iadd X.c dL_same_508 ?_
      refine jr_istore X.c (lv2 := [(7, .int (x7_473 + (0 : Int32))), (0, .ref (w.1 152)), (1, .int x1), (2, .ref (w.1 a2_)), (3, .ref (w.1 a3_)), (4, .ref (w.1 a4_)), (5, .int x5_391), (6, .int u6_408_470), (8, .int x8_473)]) dL_same_509 (by decide) rfl ?_
      refine jr_iinc X.c (v := (x8_473 + (1 : Int32))) (lv2 := [(8, .int (x8_473 + (1 : Int32))), (7, .int (x7_473 + (0 : Int32))), (0, .ref (w.1 152)), (1, .int x1), (2, .ref (w.1 a2_)), (3, .ref (w.1 a3_)), (4, .ref (w.1 a4_)), (5, .int x5_391), (6, .int u6_408_470)]) dL_same_511 8 rfl (by rfl) (by decide) rfl ?_
      refine jr_goto X.c 473 dL_same_514 (by decide) ?_
      cases h
      refine jr_sub [2, 3, 4, 5, 6, 7, 8, 1, 0] rfl ?_
      exact kl (x7_473 + (0 : Int32)) (x8_473 + (1 : Int32)) rfl
    · replace h := cr_if_f q500 h
      refine jr_iconst X.c (v := (1 : Int32)) dL_same_503 (by decide) ?_
      refine jr_goto X.c 508 dL_same_504 (by decide) ?_
      refine jr_iadd X.c dL_same_508 ?_
      refine jr_istore X.c (lv2 := [(7, .int (x7_473 + (1 : Int32))), (0, .ref (w.1 152)), (1, .int x1), (2, .ref (w.1 a2_)), (3, .ref (w.1 a3_)), (4, .ref (w.1 a4_)), (5, .int x5_391), (6, .int u6_408_470), (8, .int x8_473)]) dL_same_509 (by decide) rfl ?_
      refine jr_iinc X.c (v := (x8_473 + (1 : Int32))) (lv2 := [(8, .int (x8_473 + (1 : Int32))), (7, .int (x7_473 + (1 : Int32))), (0, .ref (w.1 152)), (1, .int x1), (2, .ref (w.1 a2_)), (3, .ref (w.1 a3_)), (4, .ref (w.1 a4_)), (5, .int x5_391), (6, .int u6_408_470)]) dL_same_511 8 rfl (by rfl) (by decide) rfl ?_
      refine jr_goto X.c 473 dL_same_514 (by decide) ?_
      cases h
      refine jr_sub [2, 3, 4, 5, 6, 7, 8, 1, 0] rfl ?_
      exact kl (x7_473 + (1 : Int32)) (x8_473 + (1 : Int32)) rfl
def f_L_same_l391 (a2_ : Nat) (a3_ : Nat) (a4_ : Nat) (x1 : Int32) (x5_391 : Int32) (V : cr_Hp) : Option (Int32 ⊕ Unit) :=
  cr_gd (cr_ix (1 : Int32) 8) (if (V a2_ (1 : Int32).toNatClampNeg) ≤ x5_391 then (some (.inr ())) else (cr_bd (cr_it (fun (q : Int32 × Int32) => f_L_same_l408 a2_ a3_ a4_ x1 x5_391 q.1 q.2 V) cr_FU ((0 : Int32), (0 : Int32))) (fun (u6_408_470 : Int32) => cr_bd (cr_it (fun (q : Int32 × Int32) => f_L_same_l473 a2_ a3_ a4_ x1 x5_391 u6_408_470 q.1 q.2 V) cr_FU ((0 : Int32), (0 : Int32))) (fun (u7_473_517 : Int32) => cr_bd (f_X7_ring x5_391 (0 : Int32) V) (fun (r521 : Int32) => cr_gd (cr_ix ((3 : Int32) * x5_391) 12) (if r521 = (V a4_ ((3 : Int32) * x5_391).toNatClampNeg) then (cr_bd (f_X7_ring x5_391 (1 : Int32) V) (fun (r538 : Int32) => cr_gd (cr_ix (((3 : Int32) * x5_391) + (1 : Int32)) 12) (if r538 = (V a4_ (((3 : Int32) * x5_391) + (1 : Int32)).toNatClampNeg) then (cr_bd (f_X7_ring x5_391 (2 : Int32) V) (fun (r557 : Int32) => cr_gd (cr_ix (((3 : Int32) * x5_391) + (2 : Int32)) 12) (if r557 = (V a4_ (((3 : Int32) * x5_391) + (2 : Int32)).toNatClampNeg) then (cr_bd (f_X7_ring x5_391 (3 : Int32) V) (fun (r576 : Int32) => if r576 = u6_408_470 then (cr_bd (f_X7_ring x5_391 (4 : Int32) V) (fun (r588 : Int32) => if r588 = u7_473_517 then (some (.inl (x5_391 + (1 : Int32)))) else (none))) else (none))) else (none)))) else (none)))) else (none)))))))
set_option maxRecDepth 100000 in
set_option maxHeartbeats 4000000 in
theorem t_L_same_l391 {p : Program} {l : Launch} {e : Env} {s : State} {m : MethodId} {args : Array Value} {below : List Frame} {meth : Method} {c : Code} {w : cr_Wd} {Q : State → Prop} (X : cr_Cx w RL (Cond.code yL_same cL_same 15 (some .boolean)) cL_same 15 p s m args meth c) (a2_ : Nat) (a3_ : Nat) (a4_ : Nat) (x1 : Int32) (x5_391 : Int32) (V : cr_Hp) (ha2_ : cr_iv w 8 a2_) (ha3_ : cr_iv w 60 a3_) (ha4_ : cr_iv w 12 a4_) (x : Int32 ⊕ Unit) (h : f_L_same_l391 a2_ a3_ a4_ x1 x5_391 V = some x) (kl : ∀ (x5_391 : Int32), x = .inl x5_391 → cr_J w 15 p l e rm_L_same s m args below meth c 0 0 Q V 391 [(0, .ref (w.1 152)), (1, .int x1), (2, .ref (w.1 a2_)), (3, .ref (w.1 a3_)), (4, .ref (w.1 a4_)), (5, .int x5_391)] []) (kr604 : x = .inr () → cr_J w 15 p l e rm_L_same s m args below meth c 0 0 Q V 604 [(0, .ref (w.1 152)), (1, .int x1), (2, .ref (w.1 a2_)), (3, .ref (w.1 a3_))] []) : cr_J w 15 p l e rm_L_same s m args below meth c 0 0 Q V 391 [(0, .ref (w.1 152)), (1, .int x1), (2, .ref (w.1 a2_)), (3, .ref (w.1 a3_)), (4, .ref (w.1 a4_)), (5, .int x5_391)] [] := by
  unfold f_L_same_l391 at h
  refine jr_iload X.c dL_same_391 5 rfl ?_
  refine jr_aload_n X.c dL_same_393 rfl 2 rfl ?_
  refine jr_iconst X.c (v := (1 : Int32)) dL_same_394 (by decide) ?_
  obtain ⟨hi395, h⟩ := cr_gd_s h
  refine jr_iald X.c (cr_l_iv ha2_) ((cr_row_iv ha2_) _) hi395 dL_same_395 ?_
  refine jr_icmp_ge X.c 604 dL_same_396 (by decide) (fun q396 => ?_) (fun q396 => ?_)
  · replace h := cr_if_t q396 h
    cases h
    refine jr_sub [0, 1, 2, 3] rfl ?_
    exact kr604  rfl
  · replace h := cr_if_f q396 h
    refine jr_iconst X.c (v := (0 : Int32)) dL_same_399 (by decide) ?_
    refine jr_istore X.c (lv2 := [(6, .int (0 : Int32)), (0, .ref (w.1 152)), (1, .int x1), (2, .ref (w.1 a2_)), (3, .ref (w.1 a3_)), (4, .ref (w.1 a4_)), (5, .int x5_391)]) dL_same_400 (by decide) rfl ?_
    refine jr_iconst X.c (v := (0 : Int32)) dL_same_402 (by decide) ?_
    refine jr_istore X.c (lv2 := [(7, .int (0 : Int32)), (6, .int (0 : Int32)), (0, .ref (w.1 152)), (1, .int x1), (2, .ref (w.1 a2_)), (3, .ref (w.1 a3_)), (4, .ref (w.1 a4_)), (5, .int x5_391)]) dL_same_403 (by decide) rfl ?_
    refine jr_iconst X.c (v := (0 : Int32)) dL_same_405 (by decide) ?_
    refine jr_istore X.c (lv2 := [(8, .int (0 : Int32)), (7, .int (0 : Int32)), (6, .int (0 : Int32)), (0, .ref (w.1 152)), (1, .int x1), (2, .ref (w.1 a2_)), (3, .ref (w.1 a3_)), (4, .ref (w.1 a4_)), (5, .int x5_391)]) dL_same_406 (by decide) rfl ?_
    obtain ⟨e408, he408, h⟩ := cr_bd_s h
    have kx470 : ∀ (u6_408_470 : Int32), e408 = u6_408_470 → cr_J w 15 p l e rm_L_same s m args below meth c 0 0 Q V 470 [(0, .ref (w.1 152)), (1, .int x1), (2, .ref (w.1 a2_)), (3, .ref (w.1 a3_)), (4, .ref (w.1 a4_)), (5, .int x5_391), (6, .int u6_408_470), (7, .int (0 : Int32))] [] := by
      intro u6_408_470 qx
      rw [qx] at h
      refine jr_iconst X.c (v := (0 : Int32)) dL_same_470 (by decide) ?_
      refine jr_istore X.c (lv2 := [(8, .int (0 : Int32)), (0, .ref (w.1 152)), (1, .int x1), (2, .ref (w.1 a2_)), (3, .ref (w.1 a3_)), (4, .ref (w.1 a4_)), (5, .int x5_391), (6, .int u6_408_470), (7, .int (0 : Int32))]) dL_same_471 (by decide) rfl ?_
      obtain ⟨e473, he473, h⟩ := cr_bd_s h
      have kx517 : ∀ (u7_473_517 : Int32), e473 = u7_473_517 → cr_J w 15 p l e rm_L_same s m args below meth c 0 0 Q V 517 [(0, .ref (w.1 152)), (1, .int x1), (2, .ref (w.1 a2_)), (3, .ref (w.1 a3_)), (4, .ref (w.1 a4_)), (5, .int x5_391), (6, .int u6_408_470), (7, .int u7_473_517)] [] := by
        intro u7_473_517 qx
        rw [qx] at h
        refine jr_aload_n X.c dL_same_517 rfl 0 rfl ?_
        refine jr_iload X.c dL_same_518 5 rfl ?_
        refine jr_iconst X.c (v := (0 : Int32)) dL_same_520 (by decide) ?_
        obtain ⟨r521, hr521, h⟩ := cr_bd_s h
        refine jc_Vi X.c (As := [.int x5_391, .int (0 : Int32)]) (V1 := V) (C := RX7) (T := TX7) (N := 5) (ci := 7) 2 (m_X7_ring l w V x5_391 (0 : Int32)  r521 hr521) ⟨rfl, rfl⟩ ml_L_45 im_X7_ring sl_X7_ring in_X7 cd_X7_ring hd_X7_ring ⟨Nat.le_of_ble_eq_true rfl, Nat.le_of_ble_eq_true rfl⟩ ⟨Nat.le_of_ble_eq_true rfl, Nat.le_of_ble_eq_true rfl⟩ rfl (Nat.le_of_ble_eq_true rfl) (Or.inl (by decide)) ((cr_row_152 w) _) rfl rfl dL_same_521 ?_
        refine jr_aload X.c dL_same_524 4 rfl ?_
        refine jr_iconst X.c (v := (3 : Int32)) dL_same_526 (by decide) ?_
        refine jr_iload X.c dL_same_527 5 rfl ?_
        refine jr_imul X.c dL_same_529 ?_
        obtain ⟨hi530, h⟩ := cr_gd_s h
        refine jr_iald X.c (cr_l_iv ha4_) ((cr_row_iv ha4_) _) hi530 dL_same_530 ?_
        refine jr_icmp_ne X.c 596 dL_same_531 (by decide) (fun q531 => ?_) (fun q531 => ?_)
        · replace h := cr_if_f q531 h
          cases h
        · replace h := cr_if_t q531 h
          refine jr_aload_n X.c dL_same_534 rfl 0 rfl ?_
          refine jr_iload X.c dL_same_535 5 rfl ?_
          refine jr_iconst X.c (v := (1 : Int32)) dL_same_537 (by decide) ?_
          obtain ⟨r538, hr538, h⟩ := cr_bd_s h
          refine jc_Vi X.c (As := [.int x5_391, .int (1 : Int32)]) (V1 := V) (C := RX7) (T := TX7) (N := 5) (ci := 7) 2 (m_X7_ring l w V x5_391 (1 : Int32)  r538 hr538) ⟨rfl, rfl⟩ ml_L_45 im_X7_ring sl_X7_ring in_X7 cd_X7_ring hd_X7_ring ⟨Nat.le_of_ble_eq_true rfl, Nat.le_of_ble_eq_true rfl⟩ ⟨Nat.le_of_ble_eq_true rfl, Nat.le_of_ble_eq_true rfl⟩ rfl (Nat.le_of_ble_eq_true rfl) (Or.inl (by decide)) ((cr_row_152 w) _) rfl rfl dL_same_538 ?_
          refine jr_aload X.c dL_same_541 4 rfl ?_
          refine jr_iconst X.c (v := (3 : Int32)) dL_same_543 (by decide) ?_
          refine jr_iload X.c dL_same_544 5 rfl ?_
          refine jr_imul X.c dL_same_546 ?_
          refine jr_iconst X.c (v := (1 : Int32)) dL_same_547 (by decide) ?_
          refine jr_iadd X.c dL_same_548 ?_
          obtain ⟨hi549, h⟩ := cr_gd_s h
          refine jr_iald X.c (cr_l_iv ha4_) ((cr_row_iv ha4_) _) hi549 dL_same_549 ?_
          refine jr_icmp_ne X.c 596 dL_same_550 (by decide) (fun q550 => ?_) (fun q550 => ?_)
          · replace h := cr_if_f q550 h
            cases h
          · replace h := cr_if_t q550 h
            refine jr_aload_n X.c dL_same_553 rfl 0 rfl ?_
            refine jr_iload X.c dL_same_554 5 rfl ?_
            refine jr_iconst X.c (v := (2 : Int32)) dL_same_556 (by decide) ?_
            obtain ⟨r557, hr557, h⟩ := cr_bd_s h
            refine jc_Vi X.c (As := [.int x5_391, .int (2 : Int32)]) (V1 := V) (C := RX7) (T := TX7) (N := 5) (ci := 7) 2 (m_X7_ring l w V x5_391 (2 : Int32)  r557 hr557) ⟨rfl, rfl⟩ ml_L_45 im_X7_ring sl_X7_ring in_X7 cd_X7_ring hd_X7_ring ⟨Nat.le_of_ble_eq_true rfl, Nat.le_of_ble_eq_true rfl⟩ ⟨Nat.le_of_ble_eq_true rfl, Nat.le_of_ble_eq_true rfl⟩ rfl (Nat.le_of_ble_eq_true rfl) (Or.inl (by decide)) ((cr_row_152 w) _) rfl rfl dL_same_557 ?_
            refine jr_aload X.c dL_same_560 4 rfl ?_
            refine jr_iconst X.c (v := (3 : Int32)) dL_same_562 (by decide) ?_
            refine jr_iload X.c dL_same_563 5 rfl ?_
            refine jr_imul X.c dL_same_565 ?_
            refine jr_iconst X.c (v := (2 : Int32)) dL_same_566 (by decide) ?_
            refine jr_iadd X.c dL_same_567 ?_
            obtain ⟨hi568, h⟩ := cr_gd_s h
            refine jr_iald X.c (cr_l_iv ha4_) ((cr_row_iv ha4_) _) hi568 dL_same_568 ?_
            refine jr_icmp_ne X.c 596 dL_same_569 (by decide) (fun q569 => ?_) (fun q569 => ?_)
            · replace h := cr_if_f q569 h
              cases h
            · replace h := cr_if_t q569 h
              refine jr_aload_n X.c dL_same_572 rfl 0 rfl ?_
              refine jr_iload X.c dL_same_573 5 rfl ?_
              refine jr_iconst X.c (v := (3 : Int32)) dL_same_575 (by decide) ?_
              obtain ⟨r576, hr576, h⟩ := cr_bd_s h
              refine jc_Vi X.c (As := [.int x5_391, .int (3 : Int32)]) (V1 := V) (C := RX7) (T := TX7) (N := 5) (ci := 7) 2 (m_X7_ring l w V x5_391 (3 : Int32)  r576 hr576) ⟨rfl, rfl⟩ ml_L_45 im_X7_ring sl_X7_ring in_X7 cd_X7_ring hd_X7_ring ⟨Nat.le_of_ble_eq_true rfl, Nat.le_of_ble_eq_true rfl⟩ ⟨Nat.le_of_ble_eq_true rfl, Nat.le_of_ble_eq_true rfl⟩ rfl (Nat.le_of_ble_eq_true rfl) (Or.inl (by decide)) ((cr_row_152 w) _) rfl rfl dL_same_576 ?_
              refine jr_iload X.c dL_same_579 6 rfl ?_
              refine jr_icmp_ne X.c 596 dL_same_581 (by decide) (fun q581 => ?_) (fun q581 => ?_)
              · replace h := cr_if_f q581 h
                cases h
              · replace h := cr_if_t q581 h
                refine jr_aload_n X.c dL_same_584 rfl 0 rfl ?_
                refine jr_iload X.c dL_same_585 5 rfl ?_
                refine jr_iconst X.c (v := (4 : Int32)) dL_same_587 (by decide) ?_
                obtain ⟨r588, hr588, h⟩ := cr_bd_s h
                refine jc_Vi X.c (As := [.int x5_391, .int (4 : Int32)]) (V1 := V) (C := RX7) (T := TX7) (N := 5) (ci := 7) 2 (m_X7_ring l w V x5_391 (4 : Int32)  r588 hr588) ⟨rfl, rfl⟩ ml_L_45 im_X7_ring sl_X7_ring in_X7 cd_X7_ring hd_X7_ring ⟨Nat.le_of_ble_eq_true rfl, Nat.le_of_ble_eq_true rfl⟩ ⟨Nat.le_of_ble_eq_true rfl, Nat.le_of_ble_eq_true rfl⟩ rfl (Nat.le_of_ble_eq_true rfl) (Or.inl (by decide)) ((cr_row_152 w) _) rfl rfl dL_same_588 ?_
                refine jr_iload X.c dL_same_591 7 rfl ?_
                refine jr_icmp_eq X.c 598 dL_same_593 (by decide) (fun q593 => ?_) (fun q593 => ?_)
                · replace h := cr_if_t q593 h
                  refine jr_iinc X.c (v := (x5_391 + (1 : Int32))) (lv2 := [(5, .int (x5_391 + (1 : Int32))), (0, .ref (w.1 152)), (1, .int x1), (2, .ref (w.1 a2_)), (3, .ref (w.1 a3_)), (4, .ref (w.1 a4_)), (6, .int u6_408_470), (7, .int u7_473_517)]) dL_same_598 5 rfl (by rfl) (by decide) rfl ?_
                  refine jr_goto X.c 391 dL_same_601 (by decide) ?_
                  cases h
                  refine jr_sub [1, 2, 3, 4, 5, 0] rfl ?_
                  exact kl (x5_391 + (1 : Int32)) rfl
                · replace h := cr_if_f q593 h
                  cases h
      refine jr_sub [1, 2, 3, 4, 5, 6, 7, 8, 0] rfl ?_
      refine cr_it_W (f := (fun (q : Int32 × Int32) => f_L_same_l473 a2_ a3_ a4_ x1 x5_391 u6_408_470 q.1 q.2 V)) (P := fun (q : Int32 × Int32) => cr_J w 15 p l e rm_L_same s m args below meth c 0 0 Q V 473 [(0, .ref (w.1 152)), (1, .int x1), (2, .ref (w.1 a2_)), (3, .ref (w.1 a3_)), (4, .ref (w.1 a4_)), (5, .int x5_391), (6, .int u6_408_470), (7, .int q.1), (8, .int q.2)] []) (K := fun z => z = e473) (fun q x hx kl kr => ?_) cr_FU ((0 : Int32), (0 : Int32)) e473 he473 rfl
      obtain ⟨x7_473, x8_473⟩ := q
      exact t_L_same_l473 X a2_ a3_ a4_ x1 x5_391 u6_408_470 x7_473 x8_473 V ha2_ ha3_ ha4_ x hx (fun x7_473 x8_473 ez => kl _ ez) (fun u7_473_517 ez => kx517 u7_473_517 ((kr _ ez).symm))
    refine jr_sub [3, 4, 5, 6, 7, 8, 2, 1, 0] rfl ?_
    refine cr_it_W (f := (fun (q : Int32 × Int32) => f_L_same_l408 a2_ a3_ a4_ x1 x5_391 q.1 q.2 V)) (P := fun (q : Int32 × Int32) => cr_J w 15 p l e rm_L_same s m args below meth c 0 0 Q V 408 [(0, .ref (w.1 152)), (1, .int x1), (2, .ref (w.1 a2_)), (3, .ref (w.1 a3_)), (4, .ref (w.1 a4_)), (5, .int x5_391), (6, .int q.1), (7, .int (0 : Int32)), (8, .int q.2)] []) (K := fun z => z = e408) (fun q x hx kl kr => ?_) cr_FU ((0 : Int32), (0 : Int32)) e408 he408 rfl
    obtain ⟨x6_408, x8_408⟩ := q
    exact t_L_same_l408 X a2_ a3_ a4_ x1 x5_391 x6_408 x8_408 V ha2_ ha3_ ha4_ x hx (fun x6_408 x8_408 ez => kl _ ez) (fun u6_408_470 ez => kx470 u6_408_470 ((kr _ ez).symm))
def f_L_same_l610 (a2_ : Nat) (a3_ : Nat) (x1 : Int32) (x5_610 : Int32) (x6_610 : Int32) (V : cr_Hp) : Option ((Int32 × Int32) ⊕ Int32) :=
  if (3 : Int32) ≤ x6_610 then (some (.inr x5_610)) else (cr_bd (f_X7_score x6_610 V) (fun (r619 : Int32) => cr_bd (f_L_score a2_ a3_ x6_610 V) (fun (r626 : Int32) => if r619 = r626 then (cr_bd (f_L_score a2_ a3_ x6_610 V) (fun (r638 : Int32) => cr_bd (f_L_score a2_ a3_ x5_610 V) (fun (r645 : Int32) => if r638 ≤ r645 then (some (.inl (x5_610, (x6_610 + (1 : Int32))))) else (some (.inl (x6_610, (x6_610 + (1 : Int32)))))))) else (none))))
set_option maxRecDepth 100000 in
set_option maxHeartbeats 4000000 in
theorem t_L_same_l610 {p : Program} {l : Launch} {e : Env} {s : State} {m : MethodId} {args : Array Value} {below : List Frame} {meth : Method} {c : Code} {w : cr_Wd} {Q : State → Prop} (X : cr_Cx w RL (Cond.code yL_same cL_same 15 (some .boolean)) cL_same 15 p s m args meth c) (a2_ : Nat) (a3_ : Nat) (x1 : Int32) (x5_610 : Int32) (x6_610 : Int32) (V : cr_Hp) (ha2_ : cr_iv w 8 a2_) (ha3_ : cr_iv w 60 a3_) (x : (Int32 × Int32) ⊕ Int32) (h : f_L_same_l610 a2_ a3_ x1 x5_610 x6_610 V = some x) (kl : ∀ (x5_610 : Int32) (x6_610 : Int32), x = .inl (x5_610, x6_610) → cr_J w 15 p l e rm_L_same s m args below meth c 0 0 Q V 610 [(0, .ref (w.1 152)), (1, .int x1), (2, .ref (w.1 a2_)), (3, .ref (w.1 a3_)), (5, .int x5_610), (6, .int x6_610)] []) (kr666 : ∀ (u5_610_666 : Int32), x = .inr u5_610_666 → cr_J w 15 p l e rm_L_same s m args below meth c 0 0 Q V 666 [(0, .ref (w.1 152)), (1, .int x1), (2, .ref (w.1 a2_)), (3, .ref (w.1 a3_)), (5, .int u5_610_666)] []) : cr_J w 15 p l e rm_L_same s m args below meth c 0 0 Q V 610 [(0, .ref (w.1 152)), (1, .int x1), (2, .ref (w.1 a2_)), (3, .ref (w.1 a3_)), (5, .int x5_610), (6, .int x6_610)] [] := by
  unfold f_L_same_l610 at h
  refine jr_iload X.c dL_same_610 5 rfl ?_
  refine jr_iconst X.c (v := (3 : Int32)) dL_same_612 (by decide) ?_
  refine jr_icmp_ge X.c 666 dL_same_613 (by decide) (fun q613 => ?_) (fun q613 => ?_)
  · replace h := cr_if_t q613 h
    cases h
    refine jr_sub [0, 1, 2, 3, 4] rfl ?_
    exact kr666 x5_610 rfl
  · replace h := cr_if_f q613 h
    refine jr_aload_n X.c dL_same_616 rfl 0 rfl ?_
    refine jr_iload X.c dL_same_617 5 rfl ?_
    obtain ⟨r619, hr619, h⟩ := cr_bd_s h
    refine jc_Vi X.c (As := [.int x6_610]) (V1 := V) (C := RX7) (T := TX7) (N := 5) (ci := 7) 1 (m_X7_score l w V x6_610  r619 hr619) ⟨rfl, rfl⟩ ml_L_48 im_X7_score sl_X7_score in_X7 cd_X7_score hd_X7_score ⟨Nat.le_of_ble_eq_true rfl, Nat.le_of_ble_eq_true rfl⟩ ⟨Nat.le_of_ble_eq_true rfl, Nat.le_of_ble_eq_true rfl⟩ rfl (Nat.le_of_ble_eq_true rfl) (Or.inl (by decide)) ((cr_row_152 w) _) rfl rfl dL_same_619 ?_
    refine jr_iload X.c dL_same_622 5 rfl ?_
    refine jr_aload_n X.c dL_same_624 rfl 2 rfl ?_
    refine jr_aload_n X.c dL_same_625 rfl 3 rfl ?_
    obtain ⟨r626, hr626, h⟩ := cr_bd_s h
    refine jc_Si X.c (As := [.int x6_610, .ref (w.1 a2_), .ref (w.1 a3_)]) (V1 := V) 3 (m_L_score l w V a2_ a3_ x6_610 ha2_ ha3_ r626 hr626) ⟨rfl, rfl⟩ ml_L_51 st_L_score in_L cd_L_score hd_L_score ⟨Nat.le_of_ble_eq_true rfl, Nat.le_of_ble_eq_true rfl⟩ ⟨Nat.le_of_ble_eq_true rfl, Nat.le_of_ble_eq_true rfl⟩ rfl (Nat.le_of_ble_eq_true rfl) rfl dL_same_626 ?_
    refine jr_icmp_eq X.c 634 dL_same_629 (by decide) (fun q629 => ?_) (fun q629 => ?_)
    · replace h := cr_if_t q629 h
      refine jr_iload X.c dL_same_634 5 rfl ?_
      refine jr_aload_n X.c dL_same_636 rfl 2 rfl ?_
      refine jr_aload_n X.c dL_same_637 rfl 3 rfl ?_
      obtain ⟨r638, hr638, h⟩ := cr_bd_s h
      refine jc_Si X.c (As := [.int x6_610, .ref (w.1 a2_), .ref (w.1 a3_)]) (V1 := V) 3 (m_L_score l w V a2_ a3_ x6_610 ha2_ ha3_ r638 hr638) ⟨rfl, rfl⟩ ml_L_51 st_L_score in_L cd_L_score hd_L_score ⟨Nat.le_of_ble_eq_true rfl, Nat.le_of_ble_eq_true rfl⟩ ⟨Nat.le_of_ble_eq_true rfl, Nat.le_of_ble_eq_true rfl⟩ rfl (Nat.le_of_ble_eq_true rfl) rfl dL_same_638 ?_
      refine jr_iload X.c dL_same_641 4 rfl ?_
      refine jr_aload_n X.c dL_same_643 rfl 2 rfl ?_
      refine jr_aload_n X.c dL_same_644 rfl 3 rfl ?_
      obtain ⟨r645, hr645, h⟩ := cr_bd_s h
      refine jc_Si X.c (As := [.int x5_610, .ref (w.1 a2_), .ref (w.1 a3_)]) (V1 := V) 3 (m_L_score l w V a2_ a3_ x5_610 ha2_ ha3_ r645 hr645) ⟨rfl, rfl⟩ ml_L_51 st_L_score in_L cd_L_score hd_L_score ⟨Nat.le_of_ble_eq_true rfl, Nat.le_of_ble_eq_true rfl⟩ ⟨Nat.le_of_ble_eq_true rfl, Nat.le_of_ble_eq_true rfl⟩ rfl (Nat.le_of_ble_eq_true rfl) rfl dL_same_645 ?_
      refine jr_icmp_le X.c 656 dL_same_648 (by decide) (fun q648 => ?_) (fun q648 => ?_)
      · replace h := cr_if_t q648 h
        refine jr_iload X.c dL_same_656 4 rfl ?_
        refine jr_istore X.c (lv2 := [(5, .int x5_610), (0, .ref (w.1 152)), (1, .int x1), (2, .ref (w.1 a2_)), (3, .ref (w.1 a3_)), (6, .int x6_610)]) dL_same_658 (by decide) rfl ?_
        refine jr_iinc X.c (v := (x6_610 + (1 : Int32))) (lv2 := [(6, .int (x6_610 + (1 : Int32))), (5, .int x5_610), (0, .ref (w.1 152)), (1, .int x1), (2, .ref (w.1 a2_)), (3, .ref (w.1 a3_))]) dL_same_660 5 rfl (by rfl) (by decide) rfl ?_
        refine jr_goto X.c 610 dL_same_663 (by decide) ?_
        cases h
        refine jr_sub [2, 3, 4, 5, 1, 0] rfl ?_
        exact kl x5_610 (x6_610 + (1 : Int32)) rfl
      · replace h := cr_if_f q648 h
        refine jr_iload X.c dL_same_651 5 rfl ?_
        refine jr_goto X.c 658 dL_same_653 (by decide) ?_
        refine jr_istore X.c (lv2 := [(5, .int x6_610), (0, .ref (w.1 152)), (1, .int x1), (2, .ref (w.1 a2_)), (3, .ref (w.1 a3_)), (6, .int x6_610)]) dL_same_658 (by decide) rfl ?_
        refine jr_iinc X.c (v := (x6_610 + (1 : Int32))) (lv2 := [(6, .int (x6_610 + (1 : Int32))), (5, .int x6_610), (0, .ref (w.1 152)), (1, .int x1), (2, .ref (w.1 a2_)), (3, .ref (w.1 a3_))]) dL_same_660 5 rfl (by rfl) (by decide) rfl ?_
        refine jr_goto X.c 610 dL_same_663 (by decide) ?_
        cases h
        refine jr_sub [2, 3, 4, 5, 1, 0] rfl ?_
        exact kl x6_610 (x6_610 + (1 : Int32)) rfl
    · replace h := cr_if_f q629 h
      cases h
def f_L_same (a2_ : Nat) (a3_ : Nat) (a4_ : Nat) (x1 : Int32) (V : cr_Hp) : Option (Int32) :=
  cr_bd (cr_it (fun (q : Int32) => f_L_same_l3 a2_ a3_ a4_ x1 q V) cr_FU (0 : Int32)) (fun (_ : Unit) => cr_bd (cr_it (fun (q : Int32) => f_L_same_l34 a2_ a3_ a4_ x1 q V) cr_FU (0 : Int32)) (fun (_ : Unit) => cr_bd (cr_it (fun (q : Int32) => f_L_same_l391 a2_ a3_ a4_ x1 q V) cr_FU (0 : Int32)) (fun (_ : Unit) => cr_bd (cr_it (fun (q : Int32 × Int32) => f_L_same_l610 a2_ a3_ x1 q.1 q.2 V) cr_FU ((0 : Int32), (0 : Int32))) (fun (u5_610_666 : Int32) => cr_bd (f_X7_leader  V) (fun (r667 : Int32) => if r667 = u5_610_666 then (cr_bd (f_L_low x1 (31 : Int32)) (fun (r679 : Int32) => cr_bd (f_L_low (x1 >>> ((5 : Int32) &&& 31)) (31 : Int32)) (fun (r687 : Int32) => cr_bd (f_X7_at r679 r687 V) (fun (r690 : Int32) => cr_bd (f_L_low x1 (31 : Int32)) (fun (r696 : Int32) => cr_bd (f_L_low (x1 >>> ((5 : Int32) &&& 31)) (31 : Int32)) (fun (r704 : Int32) => cr_bd (f_L_at a2_ a3_ r696 r704 V) (fun (r709 : Int32) => if r690 = r709 then (cr_gd (cr_ix (0 : Int32) 8) (cr_bd (f_X7_marble (V a2_ (0 : Int32).toNatClampNeg) (0 : Int32) V) (fun (r720 : Int32) => if r720 = (-1001 : Int32) then (cr_gd (cr_ix (1 : Int32) 8) (cr_bd (f_X7_ring (V a2_ (1 : Int32).toNatClampNeg) (0 : Int32) V) (fun (r734 : Int32) => if r734 = (-1001 : Int32) then (some (1 : Int32)) else (none)))) else (none)))) else (none)))))))) else (none))))))
set_option maxRecDepth 100000 in
set_option maxHeartbeats 4000000 in
theorem t_L_same {p : Program} {l : Launch} {e : Env} {s : State} {m : MethodId} {args : Array Value} {below : List Frame} {meth : Method} {c : Code} {w : cr_Wd} (X : cr_Cx w RL (Cond.code yL_same cL_same 15 (some .boolean)) cL_same 15 p s m args meth c) (a2_ : Nat) (a3_ : Nat) (a4_ : Nat) (x1 : Int32) (V : cr_Hp) (ha2_ : cr_iv w 8 a2_) (ha3_ : cr_iv w 60 a3_) (ha4_ : cr_iv w 12 a4_) (hr0 : meth.sig.returnType = (some .boolean)) (x : Int32) (h : f_L_same a2_ a3_ a4_ x1 V = some x) : cr_J w 15 p l e rm_L_same s m args below meth c 0 0 (MQ below (cr_Qi w V x) args s 0 0 (cr_A w)) V 0 [(0, .ref (w.1 152)), (1, .int x1), (2, .ref (w.1 a2_)), (3, .ref (w.1 a3_)), (4, .ref (w.1 a4_))] [] := by
  unfold f_L_same at h
  refine jr_iconst X.c (v := (0 : Int32)) dL_same_0 (by decide) ?_
  refine jr_istore X.c (lv2 := [(5, .int (0 : Int32)), (0, .ref (w.1 152)), (1, .int x1), (2, .ref (w.1 a2_)), (3, .ref (w.1 a3_)), (4, .ref (w.1 a4_))]) dL_same_1 (by decide) rfl ?_
  obtain ⟨e3, he3, h⟩ := cr_bd_s h
  have kx31 : e3 = () → cr_J w 15 p l e rm_L_same s m args below meth c 0 0 (MQ below (cr_Qi w V x) args s 0 0 (cr_A w)) V 31 [(0, .ref (w.1 152)), (1, .int x1), (2, .ref (w.1 a2_)), (3, .ref (w.1 a3_)), (4, .ref (w.1 a4_))] [] := by
    intro  qx
    refine jr_iconst X.c (v := (0 : Int32)) dL_same_31 (by decide) ?_
    refine jr_istore X.c (lv2 := [(5, .int (0 : Int32)), (0, .ref (w.1 152)), (1, .int x1), (2, .ref (w.1 a2_)), (3, .ref (w.1 a3_)), (4, .ref (w.1 a4_))]) dL_same_32 (by decide) rfl ?_
    obtain ⟨e34, he34, h⟩ := cr_bd_s h
    have kx388 : e34 = () → cr_J w 15 p l e rm_L_same s m args below meth c 0 0 (MQ below (cr_Qi w V x) args s 0 0 (cr_A w)) V 388 [(0, .ref (w.1 152)), (1, .int x1), (2, .ref (w.1 a2_)), (3, .ref (w.1 a3_)), (4, .ref (w.1 a4_))] [] := by
      intro  qx
      refine jr_iconst X.c (v := (0 : Int32)) dL_same_388 (by decide) ?_
      refine jr_istore X.c (lv2 := [(5, .int (0 : Int32)), (0, .ref (w.1 152)), (1, .int x1), (2, .ref (w.1 a2_)), (3, .ref (w.1 a3_)), (4, .ref (w.1 a4_))]) dL_same_389 (by decide) rfl ?_
      obtain ⟨e391, he391, h⟩ := cr_bd_s h
      have kx604 : e391 = () → cr_J w 15 p l e rm_L_same s m args below meth c 0 0 (MQ below (cr_Qi w V x) args s 0 0 (cr_A w)) V 604 [(0, .ref (w.1 152)), (1, .int x1), (2, .ref (w.1 a2_)), (3, .ref (w.1 a3_))] [] := by
        intro  qx
        refine jr_iconst X.c (v := (0 : Int32)) dL_same_604 (by decide) ?_
        refine jr_istore X.c (lv2 := [(5, .int (0 : Int32)), (0, .ref (w.1 152)), (1, .int x1), (2, .ref (w.1 a2_)), (3, .ref (w.1 a3_))]) dL_same_605 (by decide) rfl ?_
        refine jr_iconst X.c (v := (0 : Int32)) dL_same_607 (by decide) ?_
        refine jr_istore X.c (lv2 := [(6, .int (0 : Int32)), (5, .int (0 : Int32)), (0, .ref (w.1 152)), (1, .int x1), (2, .ref (w.1 a2_)), (3, .ref (w.1 a3_))]) dL_same_608 (by decide) rfl ?_
        obtain ⟨e610, he610, h⟩ := cr_bd_s h
        have kx666 : ∀ (u5_610_666 : Int32), e610 = u5_610_666 → cr_J w 15 p l e rm_L_same s m args below meth c 0 0 (MQ below (cr_Qi w V x) args s 0 0 (cr_A w)) V 666 [(0, .ref (w.1 152)), (1, .int x1), (2, .ref (w.1 a2_)), (3, .ref (w.1 a3_)), (5, .int u5_610_666)] [] := by
          intro u5_610_666 qx
          rw [qx] at h
          refine jr_aload_n X.c dL_same_666 rfl 0 rfl ?_
          obtain ⟨r667, hr667, h⟩ := cr_bd_s h
          refine jc_Vi X.c (As := []) (V1 := V) (C := RX7) (T := TX7) (N := 5) (ci := 7) 0 (m_X7_leader l w V   r667 hr667) ⟨rfl, rfl⟩ ml_L_54 im_X7_leader sl_X7_leader in_X7 cd_X7_leader hd_X7_leader ⟨Nat.le_of_ble_eq_true rfl, Nat.le_of_ble_eq_true rfl⟩ ⟨Nat.le_of_ble_eq_true rfl, Nat.le_of_ble_eq_true rfl⟩ rfl (Nat.le_of_ble_eq_true rfl) (Or.inl (by decide)) ((cr_row_152 w) _) rfl rfl dL_same_667 ?_
          refine jr_iload X.c dL_same_670 4 rfl ?_
          refine jr_icmp_ne X.c 747 dL_same_672 (by decide) (fun q672 => ?_) (fun q672 => ?_)
          · replace h := cr_if_f q672 h
            cases h
          · replace h := cr_if_t q672 h
            refine jr_aload_n X.c dL_same_675 rfl 0 rfl ?_
            refine jr_iload_n X.c dL_same_676 rfl 1 rfl ?_
            refine jr_bipush X.c (v := (31 : Int32)) dL_same_677 (by decide) ?_
            obtain ⟨r679, hr679, h⟩ := cr_bd_s h
            refine jc_Si X.c (As := [.int x1, .int (31 : Int32)]) (V1 := V) 2 (m_L_low l w V x1 (31 : Int32)  r679 hr679) ⟨rfl, rfl⟩ ml_L_58 st_L_low in_L cd_L_low hd_L_low ⟨Nat.le_of_ble_eq_true rfl, Nat.le_of_ble_eq_true rfl⟩ ⟨Nat.le_of_ble_eq_true rfl, Nat.le_of_ble_eq_true rfl⟩ rfl (Nat.le_of_ble_eq_true rfl) rfl dL_same_679 ?_
            refine jr_iload_n X.c dL_same_682 rfl 1 rfl ?_
            refine jr_iconst X.c (v := (5 : Int32)) dL_same_683 (by decide) ?_
            refine jr_ishr X.c dL_same_684 ?_
            refine jr_bipush X.c (v := (31 : Int32)) dL_same_685 (by decide) ?_
            obtain ⟨r687, hr687, h⟩ := cr_bd_s h
            refine jc_Si X.c (As := [.int (x1 >>> ((5 : Int32) &&& 31)), .int (31 : Int32)]) (V1 := V) 2 (m_L_low l w V (x1 >>> ((5 : Int32) &&& 31)) (31 : Int32)  r687 hr687) ⟨rfl, rfl⟩ ml_L_58 st_L_low in_L cd_L_low hd_L_low ⟨Nat.le_of_ble_eq_true rfl, Nat.le_of_ble_eq_true rfl⟩ ⟨Nat.le_of_ble_eq_true rfl, Nat.le_of_ble_eq_true rfl⟩ rfl (Nat.le_of_ble_eq_true rfl) rfl dL_same_687 ?_
            obtain ⟨r690, hr690, h⟩ := cr_bd_s h
            refine jc_Vi X.c (As := [.int r679, .int r687]) (V1 := V) (C := RX7) (T := TX7) (N := 5) (ci := 7) 2 (m_X7_at l w V r679 r687  r690 hr690) ⟨rfl, rfl⟩ ml_L_40 im_X7_at sl_X7_at in_X7 cd_X7_at hd_X7_at ⟨Nat.le_of_ble_eq_true rfl, Nat.le_of_ble_eq_true rfl⟩ ⟨Nat.le_of_ble_eq_true rfl, Nat.le_of_ble_eq_true rfl⟩ rfl (Nat.le_of_ble_eq_true rfl) (Or.inl (by decide)) ((cr_row_152 w) _) rfl rfl dL_same_690 ?_
            refine jr_iload_n X.c dL_same_693 rfl 1 rfl ?_
            refine jr_bipush X.c (v := (31 : Int32)) dL_same_694 (by decide) ?_
            obtain ⟨r696, hr696, h⟩ := cr_bd_s h
            refine jc_Si X.c (As := [.int x1, .int (31 : Int32)]) (V1 := V) 2 (m_L_low l w V x1 (31 : Int32)  r696 hr696) ⟨rfl, rfl⟩ ml_L_58 st_L_low in_L cd_L_low hd_L_low ⟨Nat.le_of_ble_eq_true rfl, Nat.le_of_ble_eq_true rfl⟩ ⟨Nat.le_of_ble_eq_true rfl, Nat.le_of_ble_eq_true rfl⟩ rfl (Nat.le_of_ble_eq_true rfl) rfl dL_same_696 ?_
            refine jr_iload_n X.c dL_same_699 rfl 1 rfl ?_
            refine jr_iconst X.c (v := (5 : Int32)) dL_same_700 (by decide) ?_
            refine jr_ishr X.c dL_same_701 ?_
            refine jr_bipush X.c (v := (31 : Int32)) dL_same_702 (by decide) ?_
            obtain ⟨r704, hr704, h⟩ := cr_bd_s h
            refine jc_Si X.c (As := [.int (x1 >>> ((5 : Int32) &&& 31)), .int (31 : Int32)]) (V1 := V) 2 (m_L_low l w V (x1 >>> ((5 : Int32) &&& 31)) (31 : Int32)  r704 hr704) ⟨rfl, rfl⟩ ml_L_58 st_L_low in_L cd_L_low hd_L_low ⟨Nat.le_of_ble_eq_true rfl, Nat.le_of_ble_eq_true rfl⟩ ⟨Nat.le_of_ble_eq_true rfl, Nat.le_of_ble_eq_true rfl⟩ rfl (Nat.le_of_ble_eq_true rfl) rfl dL_same_704 ?_
            refine jr_aload_n X.c dL_same_707 rfl 2 rfl ?_
            refine jr_aload_n X.c dL_same_708 rfl 3 rfl ?_
            obtain ⟨r709, hr709, h⟩ := cr_bd_s h
            refine jc_Si X.c (As := [.int r696, .int r704, .ref (w.1 a2_), .ref (w.1 a3_)]) (V1 := V) 4 (m_L_at l w V a2_ a3_ r696 r704 ha2_ ha3_ r709 hr709) ⟨rfl, rfl⟩ ml_L_24 st_L_at in_L cd_L_at hd_L_at ⟨Nat.le_of_ble_eq_true rfl, Nat.le_of_ble_eq_true rfl⟩ ⟨Nat.le_of_ble_eq_true rfl, Nat.le_of_ble_eq_true rfl⟩ rfl (Nat.le_of_ble_eq_true rfl) rfl dL_same_709 ?_
            refine jr_icmp_ne X.c 747 dL_same_712 (by decide) (fun q712 => ?_) (fun q712 => ?_)
            · replace h := cr_if_f q712 h
              cases h
            · replace h := cr_if_t q712 h
              refine jr_aload_n X.c dL_same_715 rfl 0 rfl ?_
              refine jr_aload_n X.c dL_same_716 rfl 2 rfl ?_
              refine jr_iconst X.c (v := (0 : Int32)) dL_same_717 (by decide) ?_
              obtain ⟨hi718, h⟩ := cr_gd_s h
              refine jr_iald X.c (cr_l_iv ha2_) ((cr_row_iv ha2_) _) hi718 dL_same_718 ?_
              refine jr_iconst X.c (v := (0 : Int32)) dL_same_719 (by decide) ?_
              obtain ⟨r720, hr720, h⟩ := cr_bd_s h
              refine jc_Vi X.c (As := [.int (V a2_ (0 : Int32).toNatClampNeg), .int (0 : Int32)]) (V1 := V) (C := RX7) (T := TX7) (N := 5) (ci := 7) 2 (m_X7_marble l w V (V a2_ (0 : Int32).toNatClampNeg) (0 : Int32)  r720 hr720) ⟨rfl, rfl⟩ ml_L_37 im_X7_marble sl_X7_marble in_X7 cd_X7_marble hd_X7_marble ⟨Nat.le_of_ble_eq_true rfl, Nat.le_of_ble_eq_true rfl⟩ ⟨Nat.le_of_ble_eq_true rfl, Nat.le_of_ble_eq_true rfl⟩ rfl (Nat.le_of_ble_eq_true rfl) (Or.inl (by decide)) ((cr_row_152 w) _) rfl rfl dL_same_720 ?_
              refine jr_sipush X.c (v := (-1001 : Int32)) dL_same_723 (by decide) ?_
              refine jr_icmp_ne X.c 747 dL_same_726 (by decide) (fun q726 => ?_) (fun q726 => ?_)
              · replace h := cr_if_f q726 h
                cases h
              · replace h := cr_if_t q726 h
                refine jr_aload_n X.c dL_same_729 rfl 0 rfl ?_
                refine jr_aload_n X.c dL_same_730 rfl 2 rfl ?_
                refine jr_iconst X.c (v := (1 : Int32)) dL_same_731 (by decide) ?_
                obtain ⟨hi732, h⟩ := cr_gd_s h
                refine jr_iald X.c (cr_l_iv ha2_) ((cr_row_iv ha2_) _) hi732 dL_same_732 ?_
                refine jr_iconst X.c (v := (0 : Int32)) dL_same_733 (by decide) ?_
                obtain ⟨r734, hr734, h⟩ := cr_bd_s h
                refine jc_Vi X.c (As := [.int (V a2_ (1 : Int32).toNatClampNeg), .int (0 : Int32)]) (V1 := V) (C := RX7) (T := TX7) (N := 5) (ci := 7) 2 (m_X7_ring l w V (V a2_ (1 : Int32).toNatClampNeg) (0 : Int32)  r734 hr734) ⟨rfl, rfl⟩ ml_L_45 im_X7_ring sl_X7_ring in_X7 cd_X7_ring hd_X7_ring ⟨Nat.le_of_ble_eq_true rfl, Nat.le_of_ble_eq_true rfl⟩ ⟨Nat.le_of_ble_eq_true rfl, Nat.le_of_ble_eq_true rfl⟩ rfl (Nat.le_of_ble_eq_true rfl) (Or.inl (by decide)) ((cr_row_152 w) _) rfl rfl dL_same_734 ?_
                refine jr_sipush X.c (v := (-1001 : Int32)) dL_same_737 (by decide) ?_
                refine jr_icmp_ne X.c 747 dL_same_740 (by decide) (fun q740 => ?_) (fun q740 => ?_)
                · replace h := cr_if_f q740 h
                  cases h
                · replace h := cr_if_t q740 h
                  refine jr_iconst X.c (v := (1 : Int32)) dL_same_743 (by decide) ?_
                  refine jr_goto X.c 748 dL_same_744 (by decide) ?_
                  cases h
                  exact jr_zret X.c (r := (1 : Int32)) hr0 (by decide) dL_same_748
        refine jr_sub [2, 3, 4, 5, 1, 0] rfl ?_
        refine cr_it_W (f := (fun (q : Int32 × Int32) => f_L_same_l610 a2_ a3_ x1 q.1 q.2 V)) (P := fun (q : Int32 × Int32) => cr_J w 15 p l e rm_L_same s m args below meth c 0 0 (MQ below (cr_Qi w V x) args s 0 0 (cr_A w)) V 610 [(0, .ref (w.1 152)), (1, .int x1), (2, .ref (w.1 a2_)), (3, .ref (w.1 a3_)), (5, .int q.1), (6, .int q.2)] []) (K := fun z => z = e610) (fun q x hx kl kr => ?_) cr_FU ((0 : Int32), (0 : Int32)) e610 he610 rfl
        obtain ⟨x5_610, x6_610⟩ := q
        exact t_L_same_l610 X a2_ a3_ x1 x5_610 x6_610 V ha2_ ha3_ x hx (fun x5_610 x6_610 ez => kl _ ez) (fun u5_610_666 ez => kx666 u5_610_666 ((kr _ ez).symm))
      refine jr_sub [1, 2, 3, 4, 5, 0] rfl ?_
      refine cr_it_W (f := (fun (q : Int32) => f_L_same_l391 a2_ a3_ a4_ x1 q V)) (P := fun (q : Int32) => cr_J w 15 p l e rm_L_same s m args below meth c 0 0 (MQ below (cr_Qi w V x) args s 0 0 (cr_A w)) V 391 [(0, .ref (w.1 152)), (1, .int x1), (2, .ref (w.1 a2_)), (3, .ref (w.1 a3_)), (4, .ref (w.1 a4_)), (5, .int q)] []) (K := fun z => z = e391) (fun q x hx kl kr => ?_) cr_FU (0 : Int32) e391 he391 rfl
      obtain ⟨x5_391, rfl⟩ : ∃ z, z = q := ⟨q, rfl⟩
      exact t_L_same_l391 X a2_ a3_ a4_ x1 x5_391 V ha2_ ha3_ ha4_ x hx (fun x5_391 ez => kl _ ez) (fun ez => kx604 ((kr _ ez).symm))
    refine jr_sub [1, 2, 3, 4, 5, 0] rfl ?_
    refine cr_it_W (f := (fun (q : Int32) => f_L_same_l34 a2_ a3_ a4_ x1 q V)) (P := fun (q : Int32) => cr_J w 15 p l e rm_L_same s m args below meth c 0 0 (MQ below (cr_Qi w V x) args s 0 0 (cr_A w)) V 34 [(0, .ref (w.1 152)), (1, .int x1), (2, .ref (w.1 a2_)), (3, .ref (w.1 a3_)), (4, .ref (w.1 a4_)), (5, .int q)] []) (K := fun z => z = e34) (fun q x hx kl kr => ?_) cr_FU (0 : Int32) e34 he34 rfl
    obtain ⟨x5_34, rfl⟩ : ∃ z, z = q := ⟨q, rfl⟩
    exact t_L_same_l34 X a2_ a3_ a4_ x1 x5_34 V ha2_ ha3_ ha4_ x hx (fun x5_34 ez => kl _ ez) (fun ez => kx388 ((kr _ ez).symm))
  refine jr_sub [1, 2, 3, 4, 5, 0] rfl ?_
  refine cr_it_W (f := (fun (q : Int32) => f_L_same_l3 a2_ a3_ a4_ x1 q V)) (P := fun (q : Int32) => cr_J w 15 p l e rm_L_same s m args below meth c 0 0 (MQ below (cr_Qi w V x) args s 0 0 (cr_A w)) V 3 [(0, .ref (w.1 152)), (1, .int x1), (2, .ref (w.1 a2_)), (3, .ref (w.1 a3_)), (4, .ref (w.1 a4_)), (5, .int q)] []) (K := fun z => z = e3) (fun q x hx kl kr => ?_) cr_FU (0 : Int32) e3 he3 rfl
  obtain ⟨x5_3, rfl⟩ : ∃ z, z = q := ⟨q, rfl⟩
  exact t_L_same_l3 X a2_ a3_ a4_ x1 x5_3 V ha2_ ha3_ ha4_ x hx (fun x5_3 ez => kl _ ez) (fun ez => kx31 ((kr _ ez).symm))
set_option maxRecDepth 100000 in
set_option maxHeartbeats 4000000 in
theorem m_L_same (l : Launch) (w : cr_Wd) (V : cr_Hp) (a2_ : Nat) (a3_ : Nat) (a4_ : Nat) (x1 : Int32) (ha2_ : cr_iv w 8 a2_) (ha3_ : cr_iv w 60 a3_) (ha4_ : cr_iv w 12 a4_) (x : Int32) (h : f_L_same a2_ a3_ a4_ x1 V = some x) : Met l yL_same (cr_wds yL_same cL_same 15 (some .boolean)) rm_L_same (cr_Pc w V [.ref (w.1 152), .int x1, .ref (w.1 a2_), .ref (w.1 a3_), .ref (w.1 a4_)]) (cr_Qi w V x) 0 0 (cr_A w) := by
  refine cr_met (own := RL) (lv := [(0, .ref (w.1 152)), (1, .int x1), (2, .ref (w.1 a2_)), (3, .ref (w.1 a3_)), (4, .ref (w.1 a4_))]) (by decide +kernel) rfl (Nat.le_of_ble_eq_true rfl) rfl (fun p e s m args below meth c X hr0 => ?_)
  exact t_L_same X a2_ a3_ a4_ x1 V ha2_ ha3_ ha4_ hr0 x h
