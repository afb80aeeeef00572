abbrev rm_L_rings : Room := { frames := 1, cells := 0, slots := 0, locals := 25 }
theorem hd_L_rings : yL_rings.cls ≠ "java/lang/invoke/MethodHandle" ∧ yL_rings.cls ≠ "java/lang/invoke/VarHandle" ∧ (parseMethodDescriptor yL_rings.desc).map (fun d => d.parameters.length) = some 4 := by decide +kernel
def f_L_rings_l6 (a2_ : Nat) (a3_ : Nat) (x0 : Int32) (x1 : Int32) (x4_6 : Int32) (x5_6 : Int32) (V : cr_Hp) : Option ((Int32 × Int32) ⊕ Int32) :=
  cr_gd (cr_ix (1 : Int32) 8) (if (V a2_ (1 : Int32).toNatClampNeg) ≤ x5_6 then (some (.inr x4_6)) else (cr_bd (f_L_in a3_ x5_6 x0 x1 V) (fun (r21 : Int32) => if r21 = 0 then (some (.inl ((x4_6 ||| (0 : Int32)), (x5_6 + (1 : Int32))))) else (some (.inl ((x4_6 ||| ((1 : Int32) <<< (x5_6 &&& 31))), (x5_6 + (1 : Int32))))))))
set_option maxRecDepth 100000 in
set_option maxHeartbeats 4000000 in
theorem t_L_rings_l6 {p : Program} {l : Launch} {e : Env} {s : State} {m : MethodId} {args : Array Value} {below : List Frame} {meth : Method} {c : Code} {w : cr_Wd} {Q : State → Prop} (X : cr_Cx w RL (Cond.code yL_rings cL_rings 6 (some .int)) cL_rings 6 p s m args meth c) (a2_ : Nat) (a3_ : Nat) (x0 : Int32) (x1 : Int32) (x4_6 : Int32) (x5_6 : Int32) (V : cr_Hp) (ha2_ : cr_iv w 8 a2_) (ha3_ : cr_iv w 12 a3_) (x : (Int32 × Int32) ⊕ Int32) (h : f_L_rings_l6 a2_ a3_ x0 x1 x4_6 x5_6 V = some x) (kl : ∀ (x4_6 : Int32) (x5_6 : Int32), x = .inl (x4_6, x5_6) → cr_J w 6 p l e rm_L_rings s m args below meth c 0 0 Q V 6 [(0, .int x0), (1, .int x1), (2, .ref (w.1 a2_)), (3, .ref (w.1 a3_)), (4, .int x4_6), (5, .int x5_6)] []) (kr44 : ∀ (u4_6_44 : Int32), x = .inr u4_6_44 → cr_J w 6 p l e rm_L_rings s m args below meth c 0 0 Q V 44 [(4, .int u4_6_44)] []) : cr_J w 6 p l e rm_L_rings s m args below meth c 0 0 Q V 6 [(0, .int x0), (1, .int x1), (2, .ref (w.1 a2_)), (3, .ref (w.1 a3_)), (4, .int x4_6), (5, .int x5_6)] [] := by
  unfold f_L_rings_l6 at h
  refine jr_iload X.c dL_rings_6 5 rfl ?_
  refine jr_aload_n X.c dL_rings_8 rfl 2 rfl ?_
  refine jr_iconst X.c (v := (1 : Int32)) dL_rings_9 (by decide) ?_
  obtain ⟨hi10, h⟩ := cr_gd_s h
  refine jr_iald X.c (cr_l_iv ha2_) ((cr_row_iv ha2_) _) hi10 dL_rings_10 ?_
  refine jr_icmp_ge X.c 44 dL_rings_11 (by decide) (fun q11 => ?_) (fun q11 => ?_)
  · replace h := cr_if_t q11 h
    cases h
    refine jr_sub [4] rfl ?_
    exact kr44 x4_6 rfl
  · replace h := cr_if_f q11 h
    refine jr_iload X.c dL_rings_14 4 rfl ?_
    refine jr_iload X.c dL_rings_16 5 rfl ?_
    refine jr_iload_n X.c dL_rings_18 rfl 0 rfl ?_
    refine jr_iload_n X.c dL_rings_19 rfl 1 rfl ?_
    refine jr_aload_n X.c dL_rings_20 rfl 3 rfl ?_
    obtain ⟨r21, hr21, h⟩ := cr_bd_s h
    refine jc_Si X.c (As := [.int x5_6, .int x0, .int x1, .ref (w.1 a3_)]) (V1 := V) 4 (m_L_in l w V a3_ x5_6 x0 x1 ha3_ r21 hr21) ⟨rfl, rfl⟩ ml_L_10 st_L_in in_L cd_L_in hd_L_in ⟨Nat.le_of_ble_eq_true rfl, Nat.le_of_ble_eq_true rfl⟩ ⟨Nat.le_of_ble_eq_true rfl, Nat.le_of_ble_eq_true rfl⟩ rfl (Nat.le_of_ble_eq_true rfl) rfl dL_rings_21 ?_
    refine jr_if_eq X.c 34 dL_rings_24 (by decide) (fun q24 => ?_) (fun q24 => ?_)
    · replace h := cr_if_t q24 h
      refine jr_iconst X.c (v := (0 : Int32)) dL_rings_34 (by decide) ?_
      refine jr_ior X.c dL_rings_35 ?_
      refine jr_istore X.c (lv2 := [(4, .int (x4_6 ||| (0 : Int32))), (0, .int x0), (1, .int x1), (2, .ref (w.1 a2_)), (3, .ref (w.1 a3_)), (5, .int x5_6)]) dL_rings_36 (by decide) rfl ?_
      refine jr_iinc X.c (v := (x5_6 + (1 : Int32))) (lv2 := [(5, .int (x5_6 + (1 : Int32))), (4, .int (x4_6 ||| (0 : Int32))), (0, .int x0), (1, .int x1), (2, .ref (w.1 a2_)), (3, .ref (w.1 a3_))]) dL_rings_38 5 rfl (by rfl) (by decide) rfl ?_
      refine jr_goto X.c 6 dL_rings_41 (by decide) ?_
      cases h
      refine jr_sub [2, 3, 4, 5, 1, 0] rfl ?_
      exact kl (x4_6 ||| (0 : Int32)) (x5_6 + (1 : Int32)) rfl
    · replace h := cr_if_f q24 h
      refine jr_iconst X.c (v := (1 : Int32)) dL_rings_27 (by decide) ?_
      refine jr_iload X.c dL_rings_28 5 rfl ?_
      refine jr_ishl X.c dL_rings_30 ?_
      refine jr_goto X.c 35 dL_rings_31 (by decide) ?_
      refine jr_ior X.c dL_rings_35 ?_
      refine jr_istore X.c (lv2 := [(4, .int (x4_6 ||| ((1 : Int32) <<< (x5_6 &&& 31)))), (0, .int x0), (1, .int x1), (2, .ref (w.1 a2_)), (3, .ref (w.1 a3_)), (5, .int x5_6)]) dL_rings_36 (by decide) rfl ?_
      refine jr_iinc X.c (v := (x5_6 + (1 : Int32))) (lv2 := [(5, .int (x5_6 + (1 : Int32))), (4, .int (x4_6 ||| ((1 : Int32) <<< (x5_6 &&& 31)))), (0, .int x0), (1, .int x1), (2, .ref (w.1 a2_)), (3, .ref (w.1 a3_))]) dL_rings_38 5 rfl (by rfl) (by decide) rfl ?_
      refine jr_goto X.c 6 dL_rings_41 (by decide) ?_
      cases h
      refine jr_sub [2, 3, 4, 5, 1, 0] rfl ?_
      exact kl (x4_6 ||| ((1 : Int32) <<< (x5_6 &&& 31))) (x5_6 + (1 : Int32)) rfl
def f_L_rings (a2_ : Nat) (a3_ : Nat) (x0 : Int32) (x1 : Int32) (V : cr_Hp) : Option (Int32) :=
  cr_bd (cr_it (fun (q : Int32 × Int32) => f_L_rings_l6 a2_ a3_ x0 x1 q.1 q.2 V) cr_FU ((0 : Int32), (0 : Int32))) (fun (u4_6_44 : Int32) => some u4_6_44)
set_option maxRecDepth 100000 in
set_option maxHeartbeats 4000000 in
theorem t_L_rings {p : Program} {l : Launch} {e : Env} {s : State} {m : MethodId} {args : Array Value} {below : List Frame} {meth : Method} {c : Code} {w : cr_Wd} (X : cr_Cx w RL (Cond.code yL_rings cL_rings 6 (some .int)) cL_rings 6 p s m args meth c) (a2_ : Nat) (a3_ : Nat) (x0 : Int32) (x1 : Int32) (V : cr_Hp) (ha2_ : cr_iv w 8 a2_) (ha3_ : cr_iv w 12 a3_) (hr0 : meth.sig.returnType = (some .int)) (x : Int32) (h : f_L_rings a2_ a3_ x0 x1 V = some x) : cr_J w 6 p l e rm_L_rings s m args below meth c 0 0 (MQ below (cr_Qi w V x) args s 0 0 (cr_A w)) V 0 [(0, .int x0), (1, .int x1), (2, .ref (w.1 a2_)), (3, .ref (w.1 a3_))] [] := by
  unfold f_L_rings at h
  refine jr_iconst X.c (v := (0 : Int32)) dL_rings_0 (by decide) ?_
  refine jr_istore X.c (lv2 := [(4, .int (0 : Int32)), (0, .int x0), (1, .int x1), (2, .ref (w.1 a2_)), (3, .ref (w.1 a3_))]) dL_rings_1 (by decide) rfl ?_
  refine jr_iconst X.c (v := (0 : Int32)) dL_rings_3 (by decide) ?_
  refine jr_istore X.c (lv2 := [(5, .int (0 : Int32)), (4, .int (0 : Int32)), (0, .int x0), (1, .int x1), (2, .ref (w.1 a2_)), (3, .ref (w.1 a3_))]) dL_rings_4 (by decide) rfl ?_
  obtain ⟨e6, he6, h⟩ := cr_bd_s h
  have kx44 : ∀ (u4_6_44 : Int32), e6 = u4_6_44 → cr_J w 6 p l e rm_L_rings s m args below meth c 0 0 (MQ below (cr_Qi w V x) args s 0 0 (cr_A w)) V 44 [(4, .int u4_6_44)] [] := by
    intro u4_6_44 qx
    rw [qx] at h
    refine jr_iload X.c dL_rings_44 0 rfl ?_
    cases h
    exact jr_iret X.c hr0 dL_rings_46
  refine jr_sub [2, 3, 4, 5, 1, 0] rfl ?_
  refine cr_it_W (f := (fun (q : Int32 × Int32) => f_L_rings_l6 a2_ a3_ x0 x1 q.1 q.2 V)) (P := fun (q : Int32 × Int32) => cr_J w 6 p l e rm_L_rings s m args below meth c 0 0 (MQ below (cr_Qi w V x) args s 0 0 (cr_A w)) V 6 [(0, .int x0), (1, .int x1), (2, .ref (w.1 a2_)), (3, .ref (w.1 a3_)), (4, .int q.1), (5, .int q.2)] []) (K := fun z => z = e6) (fun q x hx kl kr => ?_) cr_FU ((0 : Int32), (0 : Int32)) e6 he6 rfl
  obtain ⟨x4_6, x5_6⟩ := q
  exact t_L_rings_l6 X a2_ a3_ x0 x1 x4_6 x5_6 V ha2_ ha3_ x hx (fun x4_6 x5_6 ez => kl _ ez) (fun u4_6_44 ez => kx44 u4_6_44 ((kr _ ez).symm))
set_option maxRecDepth 100000 in
set_option maxHeartbeats 4000000 in
theorem m_L_rings (l : Launch) (w : cr_Wd) (V : cr_Hp) (a2_ : Nat) (a3_ : Nat) (x0 : Int32) (x1 : Int32) (ha2_ : cr_iv w 8 a2_) (ha3_ : cr_iv w 12 a3_) (x : Int32) (h : f_L_rings a2_ a3_ x0 x1 V = some x) : Met l yL_rings (cr_wds yL_rings cL_rings 6 (some .int)) rm_L_rings (cr_Pc w V [.int x0, .int x1, .ref (w.1 a2_), .ref (w.1 a3_)]) (cr_Qi w V x) 0 0 (cr_A w) := by
  refine cr_met (own := RL) (lv := [(0, .int x0), (1, .int x1), (2, .ref (w.1 a2_)), (3, .ref (w.1 a3_))]) (by decide +kernel) rfl (Nat.le_of_ble_eq_true rfl) rfl (fun p e s m args below meth c X hr0 => ?_)
  exact t_L_rings X a2_ a3_ x0 x1 V ha2_ ha3_ hr0 x h
abbrev rm_L_at : Room := { frames := 0, cells := 0, slots := 0, locals := 0 }
theorem hd_L_at : yL_at.cls ≠ "java/lang/invoke/MethodHandle" ∧ yL_at.cls ≠ "java/lang/invoke/VarHandle" ∧ (parseMethodDescriptor yL_at.desc).map (fun d => d.parameters.length) = some 4 := by decide +kernel
def f_L_at_l3 (a2_ : Nat) (a3_ : Nat) (x0 : Int32) (x1 : Int32) (x4_3 : Int32) (V : cr_Hp) : Option (Int32 ⊕ (Int32 ⊕ Unit)) :=
  cr_gd (cr_ix (0 : Int32) 8) (if (V a2_ (0 : Int32).toNatClampNeg) ≤ x4_3 then (some (.inr (.inr ()))) else (cr_gd (cr_ix (((5 : Int32) * x4_3) + (4 : Int32)) 60) (if 0 ≤ (V a3_ (((5 : Int32) * x4_3) + (4 : Int32)).toNatClampNeg) then (some (.inl (x4_3 + (1 : Int32)))) else (cr_gd (cr_ix ((5 : Int32) * x4_3) 60) (if (V a3_ ((5 : Int32) * x4_3).toNatClampNeg) = x0 then (cr_gd (cr_ix (((5 : Int32) * x4_3) + (1 : Int32)) 60) (if (V a3_ (((5 : Int32) * x4_3) + (1 : Int32)).toNatClampNeg) = x1 then (some (.inr (.inl x4_3))) else (some (.inl (x4_3 + (1 : Int32)))))) else (some (.inl (x4_3 + (1 : Int32)))))))))
set_option maxRecDepth 100000 in
set_option maxHeartbeats 4000000 in
theorem t_L_at_l3 {p : Program} {l : Launch} {e : Env} {s : State} {m : MethodId} {args : Array Value} {below : List Frame} {meth : Method} {c : Code} {w : cr_Wd} {Q : State → Prop} (X : cr_Cx w RL (Cond.code yL_at cL_at 5 (some .int)) cL_at 5 p s m args meth c) (a2_ : Nat) (a3_ : Nat) (x0 : Int32) (x1 : Int32) (x4_3 : Int32) (V : cr_Hp) (ha2_ : cr_iv w 8 a2_) (ha3_ : cr_iv w 60 a3_) (x : Int32 ⊕ (Int32 ⊕ Unit)) (h : f_L_at_l3 a2_ a3_ x0 x1 x4_3 V = some x) (kl : ∀ (x4_3 : Int32), x = .inl x4_3 → cr_J w 5 p l e rm_L_at s m args below meth c 0 0 Q V 3 [(0, .int x0), (1, .int x1), (2, .ref (w.1 a2_)), (3, .ref (w.1 a3_)), (4, .int x4_3)] []) (kr44 : ∀ (u4_3_44 : Int32), x = .inr (.inl u4_3_44) → cr_J w 5 p l e rm_L_at s m args below meth c 0 0 Q V 44 [(4, .int u4_3_44)] []) (kr53 : x = .inr (.inr ()) → cr_J w 5 p l e rm_L_at s m args below meth c 0 0 Q V 53 [] []) : cr_J w 5 p l e rm_L_at s m args below meth c 0 0 Q V 3 [(0, .int x0), (1, .int x1), (2, .ref (w.1 a2_)), (3, .ref (w.1 a3_)), (4, .int x4_3)] [] := by
  unfold f_L_at_l3 at h
  refine jr_iload X.c dL_at_3 4 rfl ?_
  refine jr_aload_n X.c dL_at_5 rfl 2 rfl ?_
  refine jr_iconst X.c (v := (0 : Int32)) dL_at_6 (by decide) ?_
  obtain ⟨hi7, h⟩ := cr_gd_s h
  refine jr_iald X.c (cr_l_iv ha2_) ((cr_row_iv ha2_) _) hi7 dL_at_7 ?_
  refine jr_icmp_ge X.c 53 dL_at_8 (by decide) (fun q8 => ?_) (fun q8 => ?_)
  · replace h := cr_if_t q8 h
    cases h
    refine jr_sub [] rfl ?_
    exact kr53  rfl
  · replace h := cr_if_f q8 h
    refine jr_aload_n X.c dL_at_11 rfl 3 rfl ?_
    refine jr_iconst X.c (v := (5 : Int32)) dL_at_12 (by decide) ?_
    refine jr_iload X.c dL_at_13 4 rfl ?_
    refine jr_imul X.c dL_at_15 ?_
    refine jr_iconst X.c (v := (4 : Int32)) dL_at_16 (by decide) ?_
    refine jr_iadd X.c dL_at_17 ?_
    obtain ⟨hi18, h⟩ := cr_gd_s h
    refine jr_iald X.c (cr_l_iv ha3_) ((cr_row_iv ha3_) _) hi18 dL_at_18 ?_
    refine jr_if_ge X.c 47 dL_at_19 (by decide) (fun q19 => ?_) (fun q19 => ?_)
    · replace h := cr_if_t q19 h
      refine jr_iinc X.c (v := (x4_3 + (1 : Int32))) (lv2 := [(4, .int (x4_3 + (1 : Int32))), (0, .int x0), (1, .int x1), (2, .ref (w.1 a2_)), (3, .ref (w.1 a3_))]) dL_at_47 4 rfl (by rfl) (by decide) rfl ?_
      refine jr_goto X.c 3 dL_at_50 (by decide) ?_
      cases h
      refine jr_sub [1, 2, 3, 4, 0] rfl ?_
      exact kl (x4_3 + (1 : Int32)) rfl
    · replace h := cr_if_f q19 h
      refine jr_aload_n X.c dL_at_22 rfl 3 rfl ?_
      refine jr_iconst X.c (v := (5 : Int32)) dL_at_23 (by decide) ?_
      refine jr_iload X.c dL_at_24 4 rfl ?_
      refine jr_imul X.c dL_at_26 ?_
      obtain ⟨hi27, h⟩ := cr_gd_s h
      refine jr_iald X.c (cr_l_iv ha3_) ((cr_row_iv ha3_) _) hi27 dL_at_27 ?_
      refine jr_iload_n X.c dL_at_28 rfl 0 rfl ?_
      refine jr_icmp_ne X.c 47 dL_at_29 (by decide) (fun q29 => ?_) (fun q29 => ?_)
      · replace h := cr_if_f q29 h
        refine jr_iinc X.c (v := (x4_3 + (1 : Int32))) (lv2 := [(4, .int (x4_3 + (1 : Int32))), (0, .int x0), (1, .int x1), (2, .ref (w.1 a2_)), (3, .ref (w.1 a3_))]) dL_at_47 4 rfl (by rfl) (by decide) rfl ?_
        refine jr_goto X.c 3 dL_at_50 (by decide) ?_
        cases h
        refine jr_sub [1, 2, 3, 4, 0] rfl ?_
        exact kl (x4_3 + (1 : Int32)) rfl
      · replace h := cr_if_t q29 h
        refine jr_aload_n X.c dL_at_32 rfl 3 rfl ?_
        refine jr_iconst X.c (v := (5 : Int32)) dL_at_33 (by decide) ?_
        refine jr_iload X.c dL_at_34 4 rfl ?_
        refine jr_imul X.c dL_at_36 ?_
        refine jr_iconst X.c (v := (1 : Int32)) dL_at_37 (by decide) ?_
        refine jr_iadd X.c dL_at_38 ?_
        obtain ⟨hi39, h⟩ := cr_gd_s h
        refine jr_iald X.c (cr_l_iv ha3_) ((cr_row_iv ha3_) _) hi39 dL_at_39 ?_
        refine jr_iload_n X.c dL_at_40 rfl 1 rfl ?_
        refine jr_icmp_ne X.c 47 dL_at_41 (by decide) (fun q41 => ?_) (fun q41 => ?_)
        · replace h := cr_if_f q41 h
          refine jr_iinc X.c (v := (x4_3 + (1 : Int32))) (lv2 := [(4, .int (x4_3 + (1 : Int32))), (0, .int x0), (1, .int x1), (2, .ref (w.1 a2_)), (3, .ref (w.1 a3_))]) dL_at_47 4 rfl (by rfl) (by decide) rfl ?_
          refine jr_goto X.c 3 dL_at_50 (by decide) ?_
          cases h
          refine jr_sub [1, 2, 3, 4, 0] rfl ?_
          exact kl (x4_3 + (1 : Int32)) rfl
        · replace h := cr_if_t q41 h
          cases h
          refine jr_sub [4] rfl ?_
          exact kr44 x4_3 rfl
def f_L_at (a2_ : Nat) (a3_ : Nat) (x0 : Int32) (x1 : Int32) (V : cr_Hp) : Option (Int32) :=
  cr_bd (cr_it (fun (q : Int32) => f_L_at_l3 a2_ a3_ x0 x1 q V) cr_FU (0 : Int32)) (cr_sm (fun (u4_3_44 : Int32) => some u4_3_44) (fun (_ : Unit) => some (-1006 : Int32)))
set_option maxRecDepth 100000 in
set_option maxHeartbeats 4000000 in
theorem t_L_at {p : Program} {l : Launch} {e : Env} {s : State} {m : MethodId} {args : Array Value} {below : List Frame} {meth : Method} {c : Code} {w : cr_Wd} (X : cr_Cx w RL (Cond.code yL_at cL_at 5 (some .int)) cL_at 5 p s m args meth c) (a2_ : Nat) (a3_ : Nat) (x0 : Int32) (x1 : Int32) (V : cr_Hp) (ha2_ : cr_iv w 8 a2_) (ha3_ : cr_iv w 60 a3_) (hr0 : meth.sig.returnType = (some .int)) (x : Int32) (h : f_L_at a2_ a3_ x0 x1 V = some x) : cr_J w 5 p l e rm_L_at s m args below meth c 0 0 (MQ below (cr_Qi w V x) args s 0 0 (cr_A w)) V 0 [(0, .int x0), (1, .int x1), (2, .ref (w.1 a2_)), (3, .ref (w.1 a3_))] [] := by
  unfold f_L_at at h
  refine jr_iconst X.c (v := (0 : Int32)) dL_at_0 (by decide) ?_
  refine jr_istore X.c (lv2 := [(4, .int (0 : Int32)), (0, .int x0), (1, .int x1), (2, .ref (w.1 a2_)), (3, .ref (w.1 a3_))]) dL_at_1 (by decide) rfl ?_
  obtain ⟨e3, he3, h⟩ := cr_bd_s h
  have kx44 : ∀ (u4_3_44 : Int32), e3 = (.inl u4_3_44) → cr_J w 5 p l e rm_L_at s m args below meth c 0 0 (MQ below (cr_Qi w V x) args s 0 0 (cr_A w)) V 44 [(4, .int u4_3_44)] [] := by
    intro u4_3_44 qx
    rw [qx] at h
    rw [cr_sl_e] at h
    refine jr_iload X.c dL_at_44 0 rfl ?_
    cases h
    exact jr_iret X.c hr0 dL_at_46
  have kx53 : e3 = (.inr ()) → cr_J w 5 p l e rm_L_at s m args below meth c 0 0 (MQ below (cr_Qi w V x) args s 0 0 (cr_A w)) V 53 [] [] := by
    intro  qx
    rw [qx] at h
    rw [cr_sr_e] at h
    refine jr_sipush X.c (v := (-1006 : Int32)) dL_at_53 (by decide) ?_
    cases h
    exact jr_iret X.c hr0 dL_at_56
  refine jr_sub [1, 2, 3, 4, 0] rfl ?_
  refine cr_it_W (f := (fun (q : Int32) => f_L_at_l3 a2_ a3_ x0 x1 q V)) (P := fun (q : Int32) => cr_J w 5 p l e rm_L_at s m args below meth c 0 0 (MQ below (cr_Qi w V x) args s 0 0 (cr_A w)) V 3 [(0, .int x0), (1, .int x1), (2, .ref (w.1 a2_)), (3, .ref (w.1 a3_)), (4, .int q)] []) (K := fun z => z = e3) (fun q x hx kl kr => ?_) cr_FU (0 : Int32) e3 he3 rfl
  obtain ⟨x4_3, rfl⟩ : ∃ z, z = q := ⟨q, rfl⟩
  exact t_L_at_l3 X a2_ a3_ x0 x1 x4_3 V ha2_ ha3_ x hx (fun x4_3 ez => kl _ ez) (fun u4_3_44 ez => kx44 u4_3_44 ((kr _ ez).symm)) (fun ez => kx53 ((kr _ ez).symm))
set_option maxRecDepth 100000 in
set_option maxHeartbeats 4000000 in
theorem m_L_at (l : Launch) (w : cr_Wd) (V : cr_Hp) (a2_ : Nat) (a3_ : Nat) (x0 : Int32) (x1 : Int32) (ha2_ : cr_iv w 8 a2_) (ha3_ : cr_iv w 60 a3_) (x : Int32) (h : f_L_at a2_ a3_ x0 x1 V = some x) : Met l yL_at (cr_wds yL_at cL_at 5 (some .int)) rm_L_at (cr_Pc w V [.int x0, .int x1, .ref (w.1 a2_), .ref (w.1 a3_)]) (cr_Qi w V x) 0 0 (cr_A w) := by
  refine cr_met (own := RL) (lv := [(0, .int x0), (1, .int x1), (2, .ref (w.1 a2_)), (3, .ref (w.1 a3_))]) (by decide +kernel) rfl (Nat.le_of_ble_eq_true rfl) rfl (fun p e s m args below meth c X hr0 => ?_)
  exact t_L_at X a2_ a3_ x0 x1 V ha2_ ha3_ hr0 x h
abbrev rm_L_turn : Room := { frames := 0, cells := 0, slots := 0, locals := 0 }
theorem hd_L_turn : yL_turn.cls ≠ "java/lang/invoke/MethodHandle" ∧ yL_turn.cls ≠ "java/lang/invoke/VarHandle" ∧ (parseMethodDescriptor yL_turn.desc).map (fun d => d.parameters.length) = some 2 := by decide +kernel
def f_L_turn (x0 : Int32) (x1 : Int32) : Option (Int32) :=
  if (x0 + x1) < 0 then (some (-x1)) else (if (x0 + x1) ≤ (30 : Int32) then (some x1) else (some (-x1)))
set_option maxRecDepth 100000 in
set_option maxHeartbeats 4000000 in
theorem t_L_turn {p : Program} {l : Launch} {e : Env} {s : State} {m : MethodId} {args : Array Value} {below : List Frame} {meth : Method} {c : Code} {w : cr_Wd} (X : cr_Cx w RL (Cond.code yL_turn cL_turn 2 (some .int)) cL_turn 2 p s m args meth c) (x0 : Int32) (x1 : Int32) (V : cr_Hp)  (hr0 : meth.sig.returnType = (some .int)) (x : Int32) (h : f_L_turn x0 x1 = some x) : cr_J w 2 p l e rm_L_turn s m args below meth c 0 0 (MQ below (cr_Qi w V x) args s 0 0 (cr_A w)) V 0 [(0, .int x0), (1, .int x1)] [] := by
  unfold f_L_turn at h
  refine jr_iload_n X.c dL_turn_0 rfl 0 rfl ?_
  refine jr_iload_n X.c dL_turn_1 rfl 1 rfl ?_
  refine jr_iadd X.c dL_turn_2 ?_
  refine jr_if_lt X.c 14 dL_turn_3 (by decide) (fun q3 => ?_) (fun q3 => ?_)
  · replace h := cr_if_t q3 h
    refine jr_iload_n X.c dL_turn_14 rfl 1 rfl ?_
    refine jr_ineg X.c dL_turn_15 ?_
    refine jr_goto X.c 20 dL_turn_16 (by decide) ?_
    cases h
    exact jr_iret X.c hr0 dL_turn_20
  · replace h := cr_if_f q3 h
    refine jr_iload_n X.c dL_turn_6 rfl 0 rfl ?_
    refine jr_iload_n X.c dL_turn_7 rfl 1 rfl ?_
    refine jr_iadd X.c dL_turn_8 ?_
    refine jr_bipush X.c (v := (30 : Int32)) dL_turn_9 (by decide) ?_
    refine jr_icmp_le X.c 19 dL_turn_11 (by decide) (fun q11 => ?_) (fun q11 => ?_)
    · replace h := cr_if_t q11 h
      refine jr_iload_n X.c dL_turn_19 rfl 1 rfl ?_
      cases h
      exact jr_iret X.c hr0 dL_turn_20
    · replace h := cr_if_f q11 h
      refine jr_iload_n X.c dL_turn_14 rfl 1 rfl ?_
      refine jr_ineg X.c dL_turn_15 ?_
      refine jr_goto X.c 20 dL_turn_16 (by decide) ?_
      cases h
      exact jr_iret X.c hr0 dL_turn_20
set_option maxRecDepth 100000 in
set_option maxHeartbeats 4000000 in
theorem m_L_turn (l : Launch) (w : cr_Wd) (V : cr_Hp) (x0 : Int32) (x1 : Int32)  (x : Int32) (h : f_L_turn x0 x1 = some x) : Met l yL_turn (cr_wds yL_turn cL_turn 2 (some .int)) rm_L_turn (cr_Pc w V [.int x0, .int x1]) (cr_Qi w V x) 0 0 (cr_A w) := by
  refine cr_met (own := RL) (lv := [(0, .int x0), (1, .int x1)]) (by decide +kernel) rfl (Nat.le_of_ble_eq_true rfl) rfl (fun p e s m args below meth c X hr0 => ?_)
  exact t_L_turn X x0 x1 V  hr0 x h
