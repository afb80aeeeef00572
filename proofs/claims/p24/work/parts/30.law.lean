def f_L_law_b1126 (nL : Nat) (xs : Nat → Int32) (x6_32 : Int32) (z0_184 : Int32) (x16_1073 : Int32) (x15_1083 : Int32) (x17_1083 : Int32) (r1101 : Int32) (z0_1126 : Int32) (W1101 : cr_Hp) : Option ((Int32 × Int32 × Int32 × cr_Hp) ⊕ (Int32 × Int32 × cr_Hp)) :=
  if r1101 ≤ x15_1083 then (some (.inl (z0_1126, x15_1083, (x17_1083 + (1 : Int32)), W1101))) else (some (.inl (z0_1126, r1101, (x17_1083 + (1 : Int32)), W1101)))
set_option maxRecDepth 100000 in
set_option maxHeartbeats 4000000 in
theorem t_L_law_b1126 {p : Program} {l : Launch} {e : Env} {s : State} {m : MethodId} {args : Array Value} {below : List Frame} {meth : Method} {c : Code} {w : cr_Wd} {Q : State → Prop} (X : cr_LX w p s m args meth c) (x6_32 : Int32) (z0_184 : Int32) (x16_1073 : Int32) (x15_1083 : Int32) (x17_1083 : Int32) (r1101 : Int32) (z0_1126 : Int32) (W1101 : cr_Hp)  (x : (Int32 × Int32 × Int32 × cr_Hp) ⊕ (Int32 × Int32 × cr_Hp)) (h : f_L_law_b1126 (cr_zL w) (cr_zx w) x6_32 z0_184 x16_1073 x15_1083 x17_1083 r1101 z0_1126 W1101 = some x) (kl : ∀ (x14_1083 : Int32) (x15_1083 : Int32) (x17_1083 : Int32) (V_l1083 : cr_Hp), x = .inl (x14_1083, x15_1083, x17_1083, V_l1083) → cr_J w 19 p l e room_1 s m args below meth c (cr_ce V_l1083) (cr_sl V_l1083) Q V_l1083 1083 [(0, .ref (cr_zb w)), (1, .ref (w.1 152)), (2, .ref (w.1 159)), (3, .ref (w.1 160)), (4, .ref (w.1 161)), (5, .ref (w.1 162)), (6, .int x6_32), (12, .int z0_184), (14, .int x14_1083), (15, .int x15_1083), (16, .int x16_1073), (17, .int x17_1083)] []) (kr1150 : ∀ (u14_1083_1150 : Int32) (u15_1083_1150 : Int32) (V_e1083_1150 : cr_Hp), x = .inr (u14_1083_1150, u15_1083_1150, V_e1083_1150) → cr_J w 19 p l e room_1 s m args below meth c (cr_ce V_e1083_1150) (cr_sl V_e1083_1150) Q V_e1083_1150 1150 [(0, .ref (cr_zb w)), (1, .ref (w.1 152)), (2, .ref (w.1 159)), (3, .ref (w.1 160)), (4, .ref (w.1 161)), (5, .ref (w.1 162)), (6, .int x6_32), (12, .int z0_184), (14, .int u14_1083_1150), (15, .int u15_1083_1150), (16, .int x16_1073)] []) : cr_J w 19 p l e room_1 s m args below meth c (cr_ce W1101) (cr_sl W1101) Q W1101 1126 [(0, .ref (cr_zb w)), (1, .ref (w.1 152)), (2, .ref (w.1 159)), (3, .ref (w.1 160)), (4, .ref (w.1 161)), (5, .ref (w.1 162)), (6, .int x6_32), (12, .int z0_184), (15, .int x15_1083), (16, .int x16_1073), (17, .int x17_1083), (18, .int r1101)] [.int z0_1126] := by
  unfold f_L_law_b1126 at h
  refine jr_istore X.c (lv2 := [(14, .int z0_1126), (0, .ref (cr_zb w)), (1, .ref (w.1 152)), (2, .ref (w.1 159)), (3, .ref (w.1 160)), (4, .ref (w.1 161)), (5, .ref (w.1 162)), (6, .int x6_32), (12, .int z0_184), (15, .int x15_1083), (16, .int x16_1073), (17, .int x17_1083), (18, .int r1101)]) dL_law_1126 (by decide) rfl ?_
  refine jr_iload X.c dL_law_1128 12 rfl ?_
  refine jr_iload X.c dL_law_1130 9 rfl ?_
  refine jr_icmp_le X.c 1140 dL_law_1132 (by decide) (fun q1132 => ?_) (fun q1132 => ?_)
  · replace h := cr_if_t q1132 h
    refine jr_iload X.c dL_law_1140 9 rfl ?_
    refine jr_istore X.c (lv2 := [(15, .int x15_1083), (14, .int z0_1126), (0, .ref (cr_zb w)), (1, .ref (w.1 152)), (2, .ref (w.1 159)), (3, .ref (w.1 160)), (4, .ref (w.1 161)), (5, .ref (w.1 162)), (6, .int x6_32), (12, .int z0_184), (16, .int x16_1073), (17, .int x17_1083), (18, .int r1101)]) dL_law_1142 (by decide) rfl ?_
    refine jr_iinc X.c (v := (x17_1083 + (1 : Int32))) (lv2 := [(17, .int (x17_1083 + (1 : Int32))), (15, .int x15_1083), (14, .int z0_1126), (0, .ref (cr_zb w)), (1, .ref (w.1 152)), (2, .ref (w.1 159)), (3, .ref (w.1 160)), (4, .ref (w.1 161)), (5, .ref (w.1 162)), (6, .int x6_32), (12, .int z0_184), (16, .int x16_1073), (18, .int r1101)]) dL_law_1144 11 rfl (by rfl) (by decide) rfl ?_
    refine jr_goto X.c 1083 dL_law_1147 (by decide) ?_
    cases h
    refine jr_sub [3, 4, 5, 6, 7, 8, 9, 10, 2, 1, 11, 0] rfl ?_
    exact kl z0_1126 x15_1083 (x17_1083 + (1 : Int32)) W1101 rfl
  · replace h := cr_if_f q1132 h
    refine jr_iload X.c dL_law_1135 12 rfl ?_
    refine jr_goto X.c 1142 dL_law_1137 (by decide) ?_
    refine jr_istore X.c (lv2 := [(15, .int r1101), (14, .int z0_1126), (0, .ref (cr_zb w)), (1, .ref (w.1 152)), (2, .ref (w.1 159)), (3, .ref (w.1 160)), (4, .ref (w.1 161)), (5, .ref (w.1 162)), (6, .int x6_32), (12, .int z0_184), (16, .int x16_1073), (17, .int x17_1083), (18, .int r1101)]) dL_law_1142 (by decide) rfl ?_
    refine jr_iinc X.c (v := (x17_1083 + (1 : Int32))) (lv2 := [(17, .int (x17_1083 + (1 : Int32))), (15, .int r1101), (14, .int z0_1126), (0, .ref (cr_zb w)), (1, .ref (w.1 152)), (2, .ref (w.1 159)), (3, .ref (w.1 160)), (4, .ref (w.1 161)), (5, .ref (w.1 162)), (6, .int x6_32), (12, .int z0_184), (16, .int x16_1073), (18, .int r1101)]) dL_law_1144 11 rfl (by rfl) (by decide) rfl ?_
    refine jr_goto X.c 1083 dL_law_1147 (by decide) ?_
    cases h
    refine jr_sub [3, 4, 5, 6, 7, 8, 9, 10, 2, 1, 11, 0] rfl ?_
    exact kl z0_1126 r1101 (x17_1083 + (1 : Int32)) W1101 rfl
def f_L_law_l1083 (nL : Nat) (xs : Nat → Int32) (x6_32 : Int32) (z0_184 : Int32) (x16_1073 : Int32) (x14_1083 : Int32) (x15_1083 : Int32) (x17_1083 : Int32) (V_l1083 : cr_Hp) : Option ((Int32 × Int32 × Int32 × cr_Hp) ⊕ (Int32 × Int32 × cr_Hp)) :=
  if (8 : Int32) ≤ x17_1083 then (some (.inr (x14_1083, x15_1083, V_l1083))) else (cr_b2 (f_L_then 163 159 160 161 z0_184 x17_1083 x16_1073 (1 : Int32) V_l1083) (fun (r1101 : Int32) (V1101 : cr_Hp) => cr_gd (V1101 999 0 = V_l1083 999 0 ∧ (V_l1083 999 0).toNatClampNeg < 60000) (cr_lt (cr_pt V1101 999 0 (nI ((V_l1083 999 0).toNatClampNeg + 1))) (fun (W1101 : cr_Hp) => if r1101 ≤ x15_1083 then (f_L_law_b1126 nL xs x6_32 z0_184 x16_1073 x15_1083 x17_1083 r1101 x14_1083 W1101) else (f_L_law_b1126 nL xs x6_32 z0_184 x16_1073 x15_1083 x17_1083 r1101 (((100 : Int32) * x17_1083) + x16_1073) W1101)))))
set_option maxRecDepth 100000 in
set_option maxHeartbeats 4000000 in
theorem t_L_law_l1083 {p : Program} {l : Launch} {e : Env} {s : State} {m : MethodId} {args : Array Value} {below : List Frame} {meth : Method} {c : Code} {w : cr_Wd} {Q : State → Prop} (X : cr_LX w p s m args meth c) (x6_32 : Int32) (z0_184 : Int32) (x16_1073 : Int32) (x14_1083 : Int32) (x15_1083 : Int32) (x17_1083 : Int32) (V_l1083 : cr_Hp)  (x : (Int32 × Int32 × Int32 × cr_Hp) ⊕ (Int32 × Int32 × cr_Hp)) (h : f_L_law_l1083 (cr_zL w) (cr_zx w) x6_32 z0_184 x16_1073 x14_1083 x15_1083 x17_1083 V_l1083 = some x) (kl : ∀ (x14_1083 : Int32) (x15_1083 : Int32) (x17_1083 : Int32) (V_l1083 : cr_Hp), x = .inl (x14_1083, x15_1083, x17_1083, V_l1083) → cr_J w 19 p l e room_1 s m args below meth c (cr_ce V_l1083) (cr_sl V_l1083) Q V_l1083 1083 [(0, .ref (cr_zb w)), (1, .ref (w.1 152)), (2, .ref (w.1 159)), (3, .ref (w.1 160)), (4, .ref (w.1 161)), (5, .ref (w.1 162)), (6, .int x6_32), (12, .int z0_184), (14, .int x14_1083), (15, .int x15_1083), (16, .int x16_1073), (17, .int x17_1083)] []) (kr1150 : ∀ (u14_1083_1150 : Int32) (u15_1083_1150 : Int32) (V_e1083_1150 : cr_Hp), x = .inr (u14_1083_1150, u15_1083_1150, V_e1083_1150) → cr_J w 19 p l e room_1 s m args below meth c (cr_ce V_e1083_1150) (cr_sl V_e1083_1150) Q V_e1083_1150 1150 [(0, .ref (cr_zb w)), (1, .ref (w.1 152)), (2, .ref (w.1 159)), (3, .ref (w.1 160)), (4, .ref (w.1 161)), (5, .ref (w.1 162)), (6, .int x6_32), (12, .int z0_184), (14, .int u14_1083_1150), (15, .int u15_1083_1150), (16, .int x16_1073)] []) : cr_J w 19 p l e room_1 s m args below meth c (cr_ce V_l1083) (cr_sl V_l1083) Q V_l1083 1083 [(0, .ref (cr_zb w)), (1, .ref (w.1 152)), (2, .ref (w.1 159)), (3, .ref (w.1 160)), (4, .ref (w.1 161)), (5, .ref (w.1 162)), (6, .int x6_32), (12, .int z0_184), (14, .int x14_1083), (15, .int x15_1083), (16, .int x16_1073), (17, .int x17_1083)] [] := by
  unfold f_L_law_l1083 at h
  refine jr_iload X.c dL_law_1083 11 rfl ?_
  refine jr_bipush X.c (v := (8 : Int32)) dL_law_1085 (by decide) ?_
  refine jr_icmp_ge X.c 1150 dL_law_1087 (by decide) (fun q1087 => ?_) (fun q1087 => ?_)
  · replace h := cr_if_t q1087 h
    cases h
    refine jr_sub [0, 1, 2, 3, 4, 5, 6, 7, 8, 9, 10] rfl ?_
    exact kr1150 x14_1083 x15_1083 V_l1083 rfl
  · replace h := cr_if_f q1087 h
    refine jr_iload X.c dL_law_1090 7 rfl ?_
    refine jr_iload X.c dL_law_1092 11 rfl ?_
    refine jr_iload X.c dL_law_1094 10 rfl ?_
    refine jr_iconst X.c (v := (1 : Int32)) dL_law_1096 (by decide) ?_
    refine jr_aload_n X.c dL_law_1097 rfl 2 rfl ?_
    refine jr_aload_n X.c dL_law_1098 rfl 3 rfl ?_
    refine jr_aload X.c dL_law_1099 4 rfl ?_
    obtain ⟨r1101, V1101, hr1101, h⟩ := cr_b2_s h
    obtain ⟨hg1101, h⟩ := cr_gd_s h
    obtain ⟨W1101, eW1101, h⟩ := cr_lt_s h
    refine jc_Ai X.c (As := [.int z0_184, .int x17_1083, .int x16_1073, .int (1 : Int32), .ref (w.1 159), .ref (w.1 160), .ref (w.1 161)]) (V1 := V1101) 7 (m_L_then l w V_l1083 163 159 160 161 z0_184 x17_1083 x16_1073 (1 : Int32) X.n X.k0 X.k1 X.k2 (r1101, V1101) hr1101) ⟨rfl, rfl⟩ ml_L_86 st_L_then in_L cd_L_then hd_L_then ⟨Nat.le_of_ble_eq_true rfl, Nat.le_of_ble_eq_true rfl⟩ (cr_ce_lea _ (by decide) (by decide)) rfl (Nat.le_of_ble_eq_true rfl) rfl dL_law_1101 ?_
    refine jr_cea X.n hg1101.2 (by decide) (by decide) eW1101 ?_
    refine jr_istore X.c (lv2 := [(18, .int r1101), (0, .ref (cr_zb w)), (1, .ref (w.1 152)), (2, .ref (w.1 159)), (3, .ref (w.1 160)), (4, .ref (w.1 161)), (5, .ref (w.1 162)), (6, .int x6_32), (12, .int z0_184), (14, .int x14_1083), (15, .int x15_1083), (16, .int x16_1073), (17, .int x17_1083)]) dL_law_1104 (by decide) rfl ?_
    refine jr_iload X.c dL_law_1106 0 rfl ?_
    refine jr_iload X.c dL_law_1108 10 rfl ?_
    refine jr_icmp_le X.c 1124 dL_law_1110 (by decide) (fun q1110 => ?_) (fun q1110 => ?_)
    · replace h := cr_if_t q1110 h
      refine jr_iload X.c dL_law_1124 9 rfl ?_
      refine jr_sub [1, 2, 3, 4, 5, 6, 7, 8, 10, 11, 12, 0] rfl ?_
      exact t_L_law_b1126 X x6_32 z0_184 x16_1073 x15_1083 x17_1083 r1101 x14_1083 W1101  x h kl kr1150
    · replace h := cr_if_f q1110 h
      refine jr_bipush X.c (v := (100 : Int32)) dL_law_1113 (by decide) ?_
      refine jr_iload X.c dL_law_1115 12 rfl ?_
      refine jr_imul X.c dL_law_1117 ?_
      refine jr_iload X.c dL_law_1118 11 rfl ?_
      refine jr_iadd X.c dL_law_1120 ?_
      refine jr_goto X.c 1126 dL_law_1121 (by decide) ?_
      refine jr_sub [1, 2, 3, 4, 5, 6, 7, 8, 10, 11, 12, 0] rfl ?_
      exact t_L_law_b1126 X x6_32 z0_184 x16_1073 x15_1083 x17_1083 r1101 (((100 : Int32) * x17_1083) + x16_1073) W1101  x h kl kr1150
def f_L_law_l1073 (nL : Nat) (xs : Nat → Int32) (x6_32 : Int32) (z0_184 : Int32) (x14_1073 : Int32) (x15_1073 : Int32) (x16_1073 : Int32) (V_l1073 : cr_Hp) : Option ((Int32 × Int32 × Int32 × cr_Hp) ⊕ (Int32 × cr_Hp)) :=
  if (41 : Int32) ≤ x16_1073 then (some (.inr (x14_1073, V_l1073))) else (cr_bd (cr_it (fun (q : Int32 × Int32 × Int32 × cr_Hp) => f_L_law_l1083 nL xs x6_32 z0_184 x16_1073 q.1 q.2.1 q.2.2.1 q.2.2.2) cr_FU (x14_1073, x15_1073, (0 : Int32), V_l1073)) (cr_u3 (fun (u14_1083_1150 : Int32) (u15_1083_1150 : Int32) (V_e1083_1150 : cr_Hp) => some (.inl (u14_1083_1150, u15_1083_1150, (x16_1073 + (1 : Int32)), V_e1083_1150)))))
set_option maxRecDepth 100000 in
set_option maxHeartbeats 4000000 in
theorem t_L_law_l1073 {p : Program} {l : Launch} {e : Env} {s : State} {m : MethodId} {args : Array Value} {below : List Frame} {meth : Method} {c : Code} {w : cr_Wd} {Q : State → Prop} (X : cr_LX w p s m args meth c) (x6_32 : Int32) (z0_184 : Int32) (x14_1073 : Int32) (x15_1073 : Int32) (x16_1073 : Int32) (V_l1073 : cr_Hp)  (x : (Int32 × Int32 × Int32 × cr_Hp) ⊕ (Int32 × cr_Hp)) (h : f_L_law_l1073 (cr_zL w) (cr_zx w) x6_32 z0_184 x14_1073 x15_1073 x16_1073 V_l1073 = some x) (kl : ∀ (x14_1073 : Int32) (x15_1073 : Int32) (x16_1073 : Int32) (V_l1073 : cr_Hp), x = .inl (x14_1073, x15_1073, x16_1073, V_l1073) → cr_J w 19 p l e room_1 s m args below meth c (cr_ce V_l1073) (cr_sl V_l1073) Q V_l1073 1073 [(0, .ref (cr_zb w)), (1, .ref (w.1 152)), (2, .ref (w.1 159)), (3, .ref (w.1 160)), (4, .ref (w.1 161)), (5, .ref (w.1 162)), (6, .int x6_32), (12, .int z0_184), (14, .int x14_1073), (15, .int x15_1073), (16, .int x16_1073)] []) (kr1156 : ∀ (u14_1073_1156 : Int32) (V_e1073_1156 : cr_Hp), x = .inr (u14_1073_1156, V_e1073_1156) → cr_J w 19 p l e room_1 s m args below meth c (cr_ce V_e1073_1156) (cr_sl V_e1073_1156) Q V_e1073_1156 1156 [(0, .ref (cr_zb w)), (1, .ref (w.1 152)), (2, .ref (w.1 159)), (3, .ref (w.1 160)), (4, .ref (w.1 161)), (5, .ref (w.1 162)), (6, .int x6_32), (12, .int z0_184), (14, .int u14_1073_1156)] []) : cr_J w 19 p l e room_1 s m args below meth c (cr_ce V_l1073) (cr_sl V_l1073) Q V_l1073 1073 [(0, .ref (cr_zb w)), (1, .ref (w.1 152)), (2, .ref (w.1 159)), (3, .ref (w.1 160)), (4, .ref (w.1 161)), (5, .ref (w.1 162)), (6, .int x6_32), (12, .int z0_184), (14, .int x14_1073), (15, .int x15_1073), (16, .int x16_1073)] [] := by
  unfold f_L_law_l1073 at h
  refine jr_iload X.c dL_law_1073 10 rfl ?_
  refine jr_bipush X.c (v := (41 : Int32)) dL_law_1075 (by decide) ?_
  refine jr_icmp_ge X.c 1156 dL_law_1077 (by decide) (fun q1077 => ?_) (fun q1077 => ?_)
  · replace h := cr_if_t q1077 h
    cases h
    refine jr_sub [0, 1, 2, 3, 4, 5, 6, 7, 8] rfl ?_
    exact kr1156 x14_1073 V_l1073 rfl
  · replace h := cr_if_f q1077 h
    refine jr_iconst X.c (v := (0 : Int32)) dL_law_1080 (by decide) ?_
    refine jr_istore X.c (lv2 := [(17, .int (0 : Int32)), (0, .ref (cr_zb w)), (1, .ref (w.1 152)), (2, .ref (w.1 159)), (3, .ref (w.1 160)), (4, .ref (w.1 161)), (5, .ref (w.1 162)), (6, .int x6_32), (12, .int z0_184), (14, .int x14_1073), (15, .int x15_1073), (16, .int x16_1073)]) dL_law_1081 (by decide) rfl ?_
    obtain ⟨e1083, he1083, h⟩ := cr_bd_s h
    have kx1150 : ∀ (u14_1083_1150 : Int32) (u15_1083_1150 : Int32) (V_e1083_1150 : cr_Hp), e1083 = (u14_1083_1150, u15_1083_1150, V_e1083_1150) → cr_J w 19 p l e room_1 s m args below meth c (cr_ce V_e1083_1150) (cr_sl V_e1083_1150) Q V_e1083_1150 1150 [(0, .ref (cr_zb w)), (1, .ref (w.1 152)), (2, .ref (w.1 159)), (3, .ref (w.1 160)), (4, .ref (w.1 161)), (5, .ref (w.1 162)), (6, .int x6_32), (12, .int z0_184), (14, .int u14_1083_1150), (15, .int u15_1083_1150), (16, .int x16_1073)] [] := by
      intro u14_1083_1150 u15_1083_1150 V_e1083_1150 qx
      rw [qx] at h
      rw [cr_u3_e] at h
      refine jr_iinc X.c (v := (x16_1073 + (1 : Int32))) (lv2 := [(16, .int (x16_1073 + (1 : Int32))), (0, .ref (cr_zb w)), (1, .ref (w.1 152)), (2, .ref (w.1 159)), (3, .ref (w.1 160)), (4, .ref (w.1 161)), (5, .ref (w.1 162)), (6, .int x6_32), (12, .int z0_184), (14, .int u14_1083_1150), (15, .int u15_1083_1150)]) dL_law_1150 10 rfl (by rfl) (by decide) rfl ?_
      refine jr_goto X.c 1073 dL_law_1153 (by decide) ?_
      cases h
      refine jr_sub [1, 2, 3, 4, 5, 6, 7, 8, 9, 10, 0] rfl ?_
      exact kl u14_1083_1150 u15_1083_1150 (x16_1073 + (1 : Int32)) V_e1083_1150 rfl
    refine jr_sub [1, 2, 3, 4, 5, 6, 7, 8, 9, 10, 11, 0] rfl ?_
    refine cr_it_W (f := (fun (q : Int32 × Int32 × Int32 × cr_Hp) => f_L_law_l1083 (cr_zL w) (cr_zx w) x6_32 z0_184 x16_1073 q.1 q.2.1 q.2.2.1 q.2.2.2)) (P := fun (q : Int32 × Int32 × Int32 × cr_Hp) => cr_J w 19 p l e room_1 s m args below meth c (cr_ce q.2.2.2) (cr_sl q.2.2.2) Q q.2.2.2 1083 [(0, .ref (cr_zb w)), (1, .ref (w.1 152)), (2, .ref (w.1 159)), (3, .ref (w.1 160)), (4, .ref (w.1 161)), (5, .ref (w.1 162)), (6, .int x6_32), (12, .int z0_184), (14, .int q.1), (15, .int q.2.1), (16, .int x16_1073), (17, .int q.2.2.1)] []) (K := fun z => z = e1083) (fun q x hx kl kr => ?_) cr_FU (x14_1073, x15_1073, (0 : Int32), V_l1073) e1083 he1083 rfl
    obtain ⟨x14_1083, x15_1083, x17_1083, V_l1083⟩ := q
    exact t_L_law_l1083 X x6_32 z0_184 x16_1073 x14_1083 x15_1083 x17_1083 V_l1083  x hx (fun x14_1083 x15_1083 x17_1083 V_l1083 ez => kl _ ez) (fun u14_1083_1150 u15_1083_1150 V_e1083_1150 ez => kx1150 u14_1083_1150 u15_1083_1150 V_e1083_1150 ((kr _ ez).symm))
def f_L_law_b1018 (nL : Nat) (xs : Nat → Int32) (x6_32 : Int32) (r56 : Int32) (z0_184 : Int32) (V_1018 : cr_Hp) : Option ((Int32 × cr_Hp) ⊕ cr_Hp) :=
  cr_bd (f_L_same 159 160 161 (r56 >>> ((3 : Int32) &&& 31)) V_1018) (fun (r1027 : Int32) => if r1027 = 0 then (none) else (if x6_32 = (20 : Int32) then (cr_gd (cr_ix (0 : Int32) 8) (if (V_1018 159 (0 : Int32).toNatClampNeg) = 0 then (some (.inl ((x6_32 + (1 : Int32)), V_1018))) else (cr_gd (cr_ix (((5 : Int32) * z0_184) + (4 : Int32)) 60) (if (V_1018 160 (((5 : Int32) * z0_184) + (4 : Int32)).toNatClampNeg) < 0 then (cr_bd (cr_it (fun (q : Int32 × Int32 × Int32 × cr_Hp) => f_L_law_l1073 nL xs x6_32 z0_184 q.1 q.2.1 q.2.2.1 q.2.2.2) cr_FU ((-1006 : Int32), (0 : Int32), (1 : Int32), V_1018)) (cr_u2 (fun (u14_1073_1156 : Int32) (V_e1073_1156 : cr_Hp) => cr_b2 (f_X7_bestFlick z0_184 V_e1073_1156) (fun (r1159 : Int32) (V1159 : cr_Hp) => cr_gd (V1159 999 0 = V_e1073_1156 999 0) (if r1159 = u14_1073_1156 then (some (.inl ((x6_32 + (1 : Int32)), V1159))) else (none)))))) else (some (.inl ((x6_32 + (1 : Int32)), V_1018))))))) else (some (.inl ((x6_32 + (1 : Int32)), V_1018)))))
set_option maxRecDepth 100000 in
set_option maxHeartbeats 4000000 in
theorem t_L_law_b1018 {p : Program} {l : Launch} {e : Env} {s : State} {m : MethodId} {args : Array Value} {below : List Frame} {meth : Method} {c : Code} {w : cr_Wd} {Q : State → Prop} (X : cr_LX w p s m args meth c) (x6_32 : Int32) (r56 : Int32) (z0_184 : Int32) (V_1018 : cr_Hp)  (x : (Int32 × cr_Hp) ⊕ cr_Hp) (h : f_L_law_b1018 (cr_zL w) (cr_zx w) x6_32 r56 z0_184 V_1018 = some x) (kl : ∀ (x6_32 : Int32) (V_l32 : cr_Hp), x = .inl (x6_32, V_l32) → cr_J w 19 p l e room_1 s m args below meth c (cr_ce V_l32) (cr_sl V_l32) Q V_l32 32 [(0, .ref (cr_zb w)), (1, .ref (w.1 152)), (2, .ref (w.1 159)), (3, .ref (w.1 160)), (4, .ref (w.1 161)), (5, .ref (w.1 162)), (6, .int x6_32)] []) (kr1175 : ∀ (V_e32_1175 : cr_Hp), x = .inr V_e32_1175 → cr_J w 19 p l e room_1 s m args below meth c (cr_ce V_e32_1175) (cr_sl V_e32_1175) Q V_e32_1175 1175 [] []) : cr_J w 19 p l e room_1 s m args below meth c (cr_ce V_1018) (cr_sl V_1018) Q V_1018 1018 [(0, .ref (cr_zb w)), (1, .ref (w.1 152)), (2, .ref (w.1 159)), (3, .ref (w.1 160)), (4, .ref (w.1 161)), (5, .ref (w.1 162)), (6, .int x6_32), (8, .int r56), (12, .int z0_184)] [] := by
  unfold f_L_law_b1018 at h
  refine jr_aload_n X.c dL_law_1018 rfl 1 rfl ?_
  refine jr_iload X.c dL_law_1019 7 rfl ?_
  refine jr_iconst X.c (v := (3 : Int32)) dL_law_1021 (by decide) ?_
  refine jr_ishr X.c dL_law_1022 ?_
  refine jr_aload_n X.c dL_law_1023 rfl 2 rfl ?_
  refine jr_aload_n X.c dL_law_1024 rfl 3 rfl ?_
  refine jr_aload X.c dL_law_1025 4 rfl ?_
  obtain ⟨r1027, hr1027, h⟩ := cr_bd_s h
  refine jc_Si X.c (As := [.ref (w.1 152), .int (r56 >>> ((3 : Int32) &&& 31)), .ref (w.1 159), .ref (w.1 160), .ref (w.1 161)]) (V1 := V_1018) 5 (m_L_same l w V_1018 159 160 161 (r56 >>> ((3 : Int32) &&& 31)) X.k0 X.k1 X.k2 r1027 hr1027) ⟨rfl, rfl⟩ ml_L_92 st_L_same in_L cd_L_same hd_L_same ⟨Nat.le_of_ble_eq_true rfl, Nat.le_of_ble_eq_true rfl⟩ (cr_ce_le _) rfl (Nat.le_of_ble_eq_true rfl) rfl dL_law_1027 ?_
  refine jr_if_ne X.c 1035 dL_law_1030 (by decide) (fun q1030 => ?_) (fun q1030 => ?_)
  · replace h := cr_if_f q1030 h
    refine jr_iload X.c dL_law_1035 6 rfl ?_
    refine jr_bipush X.c (v := (20 : Int32)) dL_law_1037 (by decide) ?_
    refine jr_icmp_ne X.c 1169 dL_law_1039 (by decide) (fun q1039 => ?_) (fun q1039 => ?_)
    · replace h := cr_if_f q1039 h
      refine jr_iinc X.c (v := (x6_32 + (1 : Int32))) (lv2 := [(6, .int (x6_32 + (1 : Int32))), (0, .ref (cr_zb w)), (1, .ref (w.1 152)), (2, .ref (w.1 159)), (3, .ref (w.1 160)), (4, .ref (w.1 161)), (5, .ref (w.1 162)), (8, .int r56), (12, .int z0_184)]) dL_law_1169 6 rfl (by rfl) (by decide) rfl ?_
      refine jr_goto X.c 32 dL_law_1172 (by decide) ?_
      cases h
      refine jr_sub [1, 2, 3, 4, 5, 6, 0] rfl ?_
      exact kl (x6_32 + (1 : Int32)) V_1018 rfl
    · replace h := cr_if_t q1039 h
      refine jr_aload_n X.c dL_law_1042 rfl 2 rfl ?_
      refine jr_iconst X.c (v := (0 : Int32)) dL_law_1043 (by decide) ?_
      obtain ⟨hi1044, h⟩ := cr_gd_s h
      refine jr_iald X.c (cr_l_iv X.k0) ((cr_row_iv X.k0) _) hi1044 dL_law_1044 ?_
      refine jr_if_eq X.c 1169 dL_law_1045 (by decide) (fun q1045 => ?_) (fun q1045 => ?_)
      · replace h := cr_if_t q1045 h
        refine jr_iinc X.c (v := (x6_32 + (1 : Int32))) (lv2 := [(6, .int (x6_32 + (1 : Int32))), (0, .ref (cr_zb w)), (1, .ref (w.1 152)), (2, .ref (w.1 159)), (3, .ref (w.1 160)), (4, .ref (w.1 161)), (5, .ref (w.1 162)), (8, .int r56), (12, .int z0_184)]) dL_law_1169 6 rfl (by rfl) (by decide) rfl ?_
        refine jr_goto X.c 32 dL_law_1172 (by decide) ?_
        cases h
        refine jr_sub [1, 2, 3, 4, 5, 6, 0] rfl ?_
        exact kl (x6_32 + (1 : Int32)) V_1018 rfl
      · replace h := cr_if_f q1045 h
        refine jr_aload_n X.c dL_law_1048 rfl 3 rfl ?_
        refine jr_iconst X.c (v := (5 : Int32)) dL_law_1049 (by decide) ?_
        refine jr_iload X.c dL_law_1050 8 rfl ?_
        refine jr_imul X.c dL_law_1052 ?_
        refine jr_iconst X.c (v := (4 : Int32)) dL_law_1053 (by decide) ?_
        refine jr_iadd X.c dL_law_1054 ?_
        obtain ⟨hi1055, h⟩ := cr_gd_s h
        refine jr_iald X.c (cr_l_iv X.k1) ((cr_row_iv X.k1) _) hi1055 dL_law_1055 ?_
        refine jr_if_lt X.c 1062 dL_law_1056 (by decide) (fun q1056 => ?_) (fun q1056 => ?_)
        · replace h := cr_if_t q1056 h
          refine jr_sipush X.c (v := (-1006 : Int32)) dL_law_1062 (by decide) ?_
          refine jr_istore X.c (lv2 := [(14, .int (-1006 : Int32)), (0, .ref (cr_zb w)), (1, .ref (w.1 152)), (2, .ref (w.1 159)), (3, .ref (w.1 160)), (4, .ref (w.1 161)), (5, .ref (w.1 162)), (6, .int x6_32), (8, .int r56), (12, .int z0_184)]) dL_law_1065 (by decide) rfl ?_
          refine jr_iconst X.c (v := (0 : Int32)) dL_law_1067 (by decide) ?_
          refine jr_istore X.c (lv2 := [(15, .int (0 : Int32)), (14, .int (-1006 : Int32)), (0, .ref (cr_zb w)), (1, .ref (w.1 152)), (2, .ref (w.1 159)), (3, .ref (w.1 160)), (4, .ref (w.1 161)), (5, .ref (w.1 162)), (6, .int x6_32), (8, .int r56), (12, .int z0_184)]) dL_law_1068 (by decide) rfl ?_
          refine jr_iconst X.c (v := (1 : Int32)) dL_law_1070 (by decide) ?_
          refine jr_istore X.c (lv2 := [(16, .int (1 : Int32)), (15, .int (0 : Int32)), (14, .int (-1006 : Int32)), (0, .ref (cr_zb w)), (1, .ref (w.1 152)), (2, .ref (w.1 159)), (3, .ref (w.1 160)), (4, .ref (w.1 161)), (5, .ref (w.1 162)), (6, .int x6_32), (8, .int r56), (12, .int z0_184)]) dL_law_1071 (by decide) rfl ?_
          obtain ⟨e1073, he1073, h⟩ := cr_bd_s h
          have kx1156 : ∀ (u14_1073_1156 : Int32) (V_e1073_1156 : cr_Hp), e1073 = (u14_1073_1156, V_e1073_1156) → cr_J w 19 p l e room_1 s m args below meth c (cr_ce V_e1073_1156) (cr_sl V_e1073_1156) Q V_e1073_1156 1156 [(0, .ref (cr_zb w)), (1, .ref (w.1 152)), (2, .ref (w.1 159)), (3, .ref (w.1 160)), (4, .ref (w.1 161)), (5, .ref (w.1 162)), (6, .int x6_32), (12, .int z0_184), (14, .int u14_1073_1156)] [] := by
            intro u14_1073_1156 V_e1073_1156 qx
            rw [qx] at h
            rw [cr_u2_e] at h
            refine jr_aload_n X.c dL_law_1156 rfl 1 rfl ?_
            refine jr_iload X.c dL_law_1157 7 rfl ?_
            obtain ⟨r1159, V1159, hr1159, h⟩ := cr_b2_s h
            obtain ⟨hg1159, h⟩ := cr_gd_s h
            refine jc_Vi X.c (As := [.int z0_184]) (V1 := V1159) (C := RX7) (T := TX7) (N := 5) (ci := 7) 1 (m_X7_bestFlick l w V_e1073_1156 z0_184  (r1159, V1159) hr1159) ⟨rfl, rfl⟩ ml_L_96 im_X7_bestFlick sl_X7_bestFlick in_X7 cd_X7_bestFlick hd_X7_bestFlick ⟨Nat.le_of_ble_eq_true rfl, Nat.le_of_ble_eq_true rfl⟩ (cr_ce_le _) rfl (Nat.le_of_ble_eq_true rfl) (Or.inl (by decide)) ((cr_row_152 w) _) rfl rfl dL_law_1159 ?_
            refine jr_cev hg1159 ?_
            refine jr_iload X.c dL_law_1162 8 rfl ?_
            refine jr_icmp_eq X.c 1169 dL_law_1164 (by decide) (fun q1164 => ?_) (fun q1164 => ?_)
            · replace h := cr_if_t q1164 h
              refine jr_iinc X.c (v := (x6_32 + (1 : Int32))) (lv2 := [(6, .int (x6_32 + (1 : Int32))), (0, .ref (cr_zb w)), (1, .ref (w.1 152)), (2, .ref (w.1 159)), (3, .ref (w.1 160)), (4, .ref (w.1 161)), (5, .ref (w.1 162)), (12, .int z0_184), (14, .int u14_1073_1156)]) dL_law_1169 6 rfl (by rfl) (by decide) rfl ?_
              refine jr_goto X.c 32 dL_law_1172 (by decide) ?_
              cases h
              refine jr_sub [1, 2, 3, 4, 5, 6, 0] rfl ?_
              exact kl (x6_32 + (1 : Int32)) V1159 rfl
            · replace h := cr_if_f q1164 h
              cases h
          refine jr_sub [3, 4, 5, 6, 7, 8, 9, 11, 2, 1, 0] rfl ?_
          refine cr_it_W (f := (fun (q : Int32 × Int32 × Int32 × cr_Hp) => f_L_law_l1073 (cr_zL w) (cr_zx w) x6_32 z0_184 q.1 q.2.1 q.2.2.1 q.2.2.2)) (P := fun (q : Int32 × Int32 × Int32 × cr_Hp) => cr_J w 19 p l e room_1 s m args below meth c (cr_ce q.2.2.2) (cr_sl q.2.2.2) Q q.2.2.2 1073 [(0, .ref (cr_zb w)), (1, .ref (w.1 152)), (2, .ref (w.1 159)), (3, .ref (w.1 160)), (4, .ref (w.1 161)), (5, .ref (w.1 162)), (6, .int x6_32), (12, .int z0_184), (14, .int q.1), (15, .int q.2.1), (16, .int q.2.2.1)] []) (K := fun z => z = e1073) (fun q x hx kl kr => ?_) cr_FU ((-1006 : Int32), (0 : Int32), (1 : Int32), V_1018) e1073 he1073 rfl
          obtain ⟨x14_1073, x15_1073, x16_1073, V_l1073⟩ := q
          exact t_L_law_l1073 X x6_32 z0_184 x14_1073 x15_1073 x16_1073 V_l1073  x hx (fun x14_1073 x15_1073 x16_1073 V_l1073 ez => kl _ ez) (fun u14_1073_1156 V_e1073_1156 ez => kx1156 u14_1073_1156 V_e1073_1156 ((kr _ ez).symm))
        · replace h := cr_if_f q1056 h
          refine jr_goto X.c 1169 dL_law_1059 (by decide) ?_
          refine jr_iinc X.c (v := (x6_32 + (1 : Int32))) (lv2 := [(6, .int (x6_32 + (1 : Int32))), (0, .ref (cr_zb w)), (1, .ref (w.1 152)), (2, .ref (w.1 159)), (3, .ref (w.1 160)), (4, .ref (w.1 161)), (5, .ref (w.1 162)), (8, .int r56), (12, .int z0_184)]) dL_law_1169 6 rfl (by rfl) (by decide) rfl ?_
          refine jr_goto X.c 32 dL_law_1172 (by decide) ?_
          cases h
          refine jr_sub [1, 2, 3, 4, 5, 6, 0] rfl ?_
          exact kl (x6_32 + (1 : Int32)) V_1018 rfl
  · replace h := cr_if_t q1030 h
    cases h
def f_L_law_b848 (nL : Nat) (xs : Nat → Int32) (x6_32 : Int32) (r56 : Int32) (z0_184 : Int32) (z0_208 : Int32) (r766 : Int32) (r795 : Int32) (x16_804 : Int32) (r819 : Int32) (z0_848 : Int32) (V_848 : cr_Hp) : Option ((Int32 × cr_Hp) ⊕ cr_Hp) :=
  if r819 = z0_848 then (some (.inl ((x16_804 + (1 : Int32)), V_848))) else (none)
set_option maxRecDepth 100000 in
set_option maxHeartbeats 4000000 in
theorem t_L_law_b848 {p : Program} {l : Launch} {e : Env} {s : State} {m : MethodId} {args : Array Value} {below : List Frame} {meth : Method} {c : Code} {w : cr_Wd} {Q : State → Prop} (X : cr_LX w p s m args meth c) (x6_32 : Int32) (r56 : Int32) (z0_184 : Int32) (z0_208 : Int32) (r766 : Int32) (r795 : Int32) (x16_804 : Int32) (r819 : Int32) (z0_848 : Int32) (V_848 : cr_Hp)  (x : (Int32 × cr_Hp) ⊕ cr_Hp) (h : f_L_law_b848 (cr_zL w) (cr_zx w) x6_32 r56 z0_184 z0_208 r766 r795 x16_804 r819 z0_848 V_848 = some x) (kl : ∀ (x16_804 : Int32) (V_l804 : cr_Hp), x = .inl (x16_804, V_l804) → cr_J w 19 p l e room_1 s m args below meth c (cr_ce V_l804) (cr_sl V_l804) Q V_l804 804 [(0, .ref (cr_zb w)), (1, .ref (w.1 152)), (2, .ref (w.1 159)), (3, .ref (w.1 160)), (4, .ref (w.1 161)), (5, .ref (w.1 162)), (6, .int x6_32), (8, .int r56), (12, .int z0_184), (13, .int z0_208), (14, .int r766), (15, .int ((1 : Int32) + r795)), (16, .int x16_804)] []) (kr859 : ∀ (V_e804_859 : cr_Hp), x = .inr V_e804_859 → cr_J w 19 p l e room_1 s m args below meth c (cr_ce V_e804_859) (cr_sl V_e804_859) Q V_e804_859 859 [(0, .ref (cr_zb w)), (1, .ref (w.1 152)), (2, .ref (w.1 159)), (3, .ref (w.1 160)), (4, .ref (w.1 161)), (5, .ref (w.1 162)), (6, .int x6_32), (8, .int r56), (12, .int z0_184), (13, .int z0_208), (14, .int r766), (15, .int ((1 : Int32) + r795))] []) : cr_J w 19 p l e room_1 s m args below meth c (cr_ce V_848) (cr_sl V_848) Q V_848 848 [(0, .ref (cr_zb w)), (1, .ref (w.1 152)), (2, .ref (w.1 159)), (3, .ref (w.1 160)), (4, .ref (w.1 161)), (5, .ref (w.1 162)), (6, .int x6_32), (8, .int r56), (12, .int z0_184), (13, .int z0_208), (14, .int r766), (15, .int ((1 : Int32) + r795)), (16, .int x16_804)] [.int z0_848, .int r819] := by
  unfold f_L_law_b848 at h
  refine jr_icmp_eq X.c 853 dL_law_848 (by decide) (fun q848 => ?_) (fun q848 => ?_)
  · replace h := cr_if_t q848 h
    refine jr_iinc X.c (v := (x16_804 + (1 : Int32))) (lv2 := [(16, .int (x16_804 + (1 : Int32))), (0, .ref (cr_zb w)), (1, .ref (w.1 152)), (2, .ref (w.1 159)), (3, .ref (w.1 160)), (4, .ref (w.1 161)), (5, .ref (w.1 162)), (6, .int x6_32), (8, .int r56), (12, .int z0_184), (13, .int z0_208), (14, .int r766), (15, .int ((1 : Int32) + r795))]) dL_law_853 12 rfl (by rfl) (by decide) rfl ?_
    refine jr_goto X.c 804 dL_law_856 (by decide) ?_
    cases h
    refine jr_sub [1, 2, 3, 4, 5, 6, 7, 8, 9, 10, 11, 12, 0] rfl ?_
    exact kl (x16_804 + (1 : Int32)) V_848 rfl
  · replace h := cr_if_f q848 h
    cases h
def f_L_law_l804 (nL : Nat) (xs : Nat → Int32) (x6_32 : Int32) (r56 : Int32) (z0_184 : Int32) (z0_208 : Int32) (r766 : Int32) (r795 : Int32) (x16_804 : Int32) (V_l804 : cr_Hp) : Option ((Int32 × cr_Hp) ⊕ cr_Hp) :=
  if (5 : Int32) ≤ x16_804 then (some (.inr V_l804)) else (cr_b2 (f_X7_ifFlicked z0_184 r766 ((1 : Int32) + r795) x16_804 V_l804) (fun (r819 : Int32) (V819 : cr_Hp) => cr_gd (V819 999 0 = V_l804 999 0) (if z0_208 = 0 then (f_L_law_b848 nL xs x6_32 r56 z0_184 z0_208 r766 r795 x16_804 r819 (-1003 : Int32) V819) else (cr_b2 (f_L_then 163 159 160 161 z0_184 r766 ((1 : Int32) + r795) x16_804 V819) (fun (r839 : Int32) (V839 : cr_Hp) => cr_gd (V839 999 0 = V819 999 0 ∧ (V819 999 0).toNatClampNeg < 60000) (cr_lt (cr_pt V839 999 0 (nI ((V819 999 0).toNatClampNeg + 1))) (fun (W839 : cr_Hp) => f_L_law_b848 nL xs x6_32 r56 z0_184 z0_208 r766 r795 x16_804 r819 r839 W839)))))))
set_option maxRecDepth 100000 in
set_option maxHeartbeats 4000000 in
theorem t_L_law_l804 {p : Program} {l : Launch} {e : Env} {s : State} {m : MethodId} {args : Array Value} {below : List Frame} {meth : Method} {c : Code} {w : cr_Wd} {Q : State → Prop} (X : cr_LX w p s m args meth c) (x6_32 : Int32) (r56 : Int32) (z0_184 : Int32) (z0_208 : Int32) (r766 : Int32) (r795 : Int32) (x16_804 : Int32) (V_l804 : cr_Hp)  (x : (Int32 × cr_Hp) ⊕ cr_Hp) (h : f_L_law_l804 (cr_zL w) (cr_zx w) x6_32 r56 z0_184 z0_208 r766 r795 x16_804 V_l804 = some x) (kl : ∀ (x16_804 : Int32) (V_l804 : cr_Hp), x = .inl (x16_804, V_l804) → cr_J w 19 p l e room_1 s m args below meth c (cr_ce V_l804) (cr_sl V_l804) Q V_l804 804 [(0, .ref (cr_zb w)), (1, .ref (w.1 152)), (2, .ref (w.1 159)), (3, .ref (w.1 160)), (4, .ref (w.1 161)), (5, .ref (w.1 162)), (6, .int x6_32), (8, .int r56), (12, .int z0_184), (13, .int z0_208), (14, .int r766), (15, .int ((1 : Int32) + r795)), (16, .int x16_804)] []) (kr859 : ∀ (V_e804_859 : cr_Hp), x = .inr V_e804_859 → cr_J w 19 p l e room_1 s m args below meth c (cr_ce V_e804_859) (cr_sl V_e804_859) Q V_e804_859 859 [(0, .ref (cr_zb w)), (1, .ref (w.1 152)), (2, .ref (w.1 159)), (3, .ref (w.1 160)), (4, .ref (w.1 161)), (5, .ref (w.1 162)), (6, .int x6_32), (8, .int r56), (12, .int z0_184), (13, .int z0_208), (14, .int r766), (15, .int ((1 : Int32) + r795))] []) : cr_J w 19 p l e room_1 s m args below meth c (cr_ce V_l804) (cr_sl V_l804) Q V_l804 804 [(0, .ref (cr_zb w)), (1, .ref (w.1 152)), (2, .ref (w.1 159)), (3, .ref (w.1 160)), (4, .ref (w.1 161)), (5, .ref (w.1 162)), (6, .int x6_32), (8, .int r56), (12, .int z0_184), (13, .int z0_208), (14, .int r766), (15, .int ((1 : Int32) + r795)), (16, .int x16_804)] [] := by
  unfold f_L_law_l804 at h
  refine jr_iload X.c dL_law_804 12 rfl ?_
  refine jr_iconst X.c (v := (5 : Int32)) dL_law_806 (by decide) ?_
  refine jr_icmp_ge X.c 859 dL_law_807 (by decide) (fun q807 => ?_) (fun q807 => ?_)
  · replace h := cr_if_t q807 h
    cases h
    refine jr_sub [0, 1, 2, 3, 4, 5, 6, 7, 8, 9, 10, 11] rfl ?_
    exact kr859 V_l804 rfl
  · replace h := cr_if_f q807 h
    refine jr_aload_n X.c dL_law_810 rfl 1 rfl ?_
    refine jr_iload X.c dL_law_811 8 rfl ?_
    refine jr_iload X.c dL_law_813 10 rfl ?_
    refine jr_iload X.c dL_law_815 11 rfl ?_
    refine jr_iload X.c dL_law_817 12 rfl ?_
    obtain ⟨r819, V819, hr819, h⟩ := cr_b2_s h
    obtain ⟨hg819, h⟩ := cr_gd_s h
    refine jc_Vi X.c (As := [.int z0_184, .int r766, .int ((1 : Int32) + r795), .int x16_804]) (V1 := V819) (C := RX7) (T := TX7) (N := 5) (ci := 7) 4 (m_X7_ifFlicked l w V_l804 z0_184 r766 ((1 : Int32) + r795) x16_804  (r819, V819) hr819) ⟨rfl, rfl⟩ ml_L_83 im_X7_ifFlicked sl_X7_ifFlicked in_X7 cd_X7_ifFlicked hd_X7_ifFlicked ⟨Nat.le_of_ble_eq_true rfl, Nat.le_of_ble_eq_true rfl⟩ (cr_ce_le _) rfl (Nat.le_of_ble_eq_true rfl) (Or.inl (by decide)) ((cr_row_152 w) _) rfl rfl dL_law_819 ?_
    refine jr_cev hg819 ?_
    refine jr_iload X.c dL_law_822 9 rfl ?_
    refine jr_if_eq X.c 845 dL_law_824 (by decide) (fun q824 => ?_) (fun q824 => ?_)
    · replace h := cr_if_t q824 h
      refine jr_sipush X.c (v := (-1003 : Int32)) dL_law_845 (by decide) ?_
      refine jr_sub [0, 1, 2, 3, 4, 5, 6, 7, 8, 9, 10, 11, 12] rfl ?_
      exact t_L_law_b848 X x6_32 r56 z0_184 z0_208 r766 r795 x16_804 r819 (-1003 : Int32) V819  x h kl kr859
    · replace h := cr_if_f q824 h
      refine jr_iload X.c dL_law_827 8 rfl ?_
      refine jr_iload X.c dL_law_829 10 rfl ?_
      refine jr_iload X.c dL_law_831 11 rfl ?_
      refine jr_iload X.c dL_law_833 12 rfl ?_
      refine jr_aload_n X.c dL_law_835 rfl 2 rfl ?_
      refine jr_aload_n X.c dL_law_836 rfl 3 rfl ?_
      refine jr_aload X.c dL_law_837 4 rfl ?_
      obtain ⟨r839, V839, hr839, h⟩ := cr_b2_s h
      obtain ⟨hg839, h⟩ := cr_gd_s h
      obtain ⟨W839, eW839, h⟩ := cr_lt_s h
      refine jc_Ai X.c (As := [.int z0_184, .int r766, .int ((1 : Int32) + r795), .int x16_804, .ref (w.1 159), .ref (w.1 160), .ref (w.1 161)]) (V1 := V839) 7 (m_L_then l w V819 163 159 160 161 z0_184 r766 ((1 : Int32) + r795) x16_804 X.n X.k0 X.k1 X.k2 (r839, V839) hr839) ⟨rfl, rfl⟩ ml_L_86 st_L_then in_L cd_L_then hd_L_then ⟨Nat.le_of_ble_eq_true rfl, Nat.le_of_ble_eq_true rfl⟩ (cr_ce_lea _ (by decide) (by decide)) rfl (Nat.le_of_ble_eq_true rfl) rfl dL_law_839 ?_
      refine jr_cea X.n hg839.2 (by decide) (by decide) eW839 ?_
      refine jr_goto X.c 848 dL_law_842 (by decide) ?_
      refine jr_sub [0, 1, 2, 3, 4, 5, 6, 7, 8, 9, 10, 11, 12] rfl ?_
      exact t_L_law_b848 X x6_32 r56 z0_184 z0_208 r766 r795 x16_804 r819 r839 W839  x h kl kr859
def f_L_law_b1001 (nL : Nat) (xs : Nat → Int32) (x6_32 : Int32) (r56 : Int32) (z0_184 : Int32) (r766 : Int32) (r795 : Int32) (y17_1001 : Int32) (V_1001 : cr_Hp) : Option ((Int32 × cr_Hp) ⊕ cr_Hp) :=
  cr_b2 (f_X7_flick z0_184 r766 ((1 : Int32) + r795) V_1001) (fun (r1008 : Int32) (V1008 : cr_Hp) => cr_gd (V1008 999 0 = V_1001 999 0) (if r1008 = y17_1001 then (f_L_law_b1018 nL xs x6_32 r56 z0_184 V1008) else (none)))
set_option maxRecDepth 100000 in
set_option maxHeartbeats 4000000 in
theorem t_L_law_b1001 {p : Program} {l : Launch} {e : Env} {s : State} {m : MethodId} {args : Array Value} {below : List Frame} {meth : Method} {c : Code} {w : cr_Wd} {Q : State → Prop} (X : cr_LX w p s m args meth c) (x6_32 : Int32) (r56 : Int32) (z0_184 : Int32) (r766 : Int32) (r795 : Int32) (y17_1001 : Int32) (V_1001 : cr_Hp)  (x : (Int32 × cr_Hp) ⊕ cr_Hp) (h : f_L_law_b1001 (cr_zL w) (cr_zx w) x6_32 r56 z0_184 r766 r795 y17_1001 V_1001 = some x) (kl : ∀ (x6_32 : Int32) (V_l32 : cr_Hp), x = .inl (x6_32, V_l32) → cr_J w 19 p l e room_1 s m args below meth c (cr_ce V_l32) (cr_sl V_l32) Q V_l32 32 [(0, .ref (cr_zb w)), (1, .ref (w.1 152)), (2, .ref (w.1 159)), (3, .ref (w.1 160)), (4, .ref (w.1 161)), (5, .ref (w.1 162)), (6, .int x6_32)] []) (kr1175 : ∀ (V_e32_1175 : cr_Hp), x = .inr V_e32_1175 → cr_J w 19 p l e room_1 s m args below meth c (cr_ce V_e32_1175) (cr_sl V_e32_1175) Q V_e32_1175 1175 [] []) : cr_J w 19 p l e room_1 s m args below meth c (cr_ce V_1001) (cr_sl V_1001) Q V_1001 1001 [(0, .ref (cr_zb w)), (1, .ref (w.1 152)), (2, .ref (w.1 159)), (3, .ref (w.1 160)), (4, .ref (w.1 161)), (5, .ref (w.1 162)), (6, .int x6_32), (8, .int r56), (12, .int z0_184), (14, .int r766), (15, .int ((1 : Int32) + r795)), (17, .int y17_1001)] [] := by
  unfold f_L_law_b1001 at h
  refine jr_aload_n X.c dL_law_1001 rfl 1 rfl ?_
  refine jr_iload X.c dL_law_1002 8 rfl ?_
  refine jr_iload X.c dL_law_1004 9 rfl ?_
  refine jr_iload X.c dL_law_1006 10 rfl ?_
  obtain ⟨r1008, V1008, hr1008, h⟩ := cr_b2_s h
  obtain ⟨hg1008, h⟩ := cr_gd_s h
  refine jc_Vi X.c (As := [.int z0_184, .int r766, .int ((1 : Int32) + r795)]) (V1 := V1008) (C := RX7) (T := TX7) (N := 5) (ci := 7) 3 (m_X7_flick l w V_1001 z0_184 r766 ((1 : Int32) + r795)  (r1008, V1008) hr1008) ⟨rfl, rfl⟩ ml_L_90 im_X7_flick sl_X7_flick in_X7 cd_X7_flick hd_X7_flick ⟨Nat.le_of_ble_eq_true rfl, Nat.le_of_ble_eq_true rfl⟩ (cr_ce_le _) rfl (Nat.le_of_ble_eq_true rfl) (Or.inl (by decide)) ((cr_row_152 w) _) rfl rfl dL_law_1008 ?_
  refine jr_cev hg1008 ?_
  refine jr_iload X.c dL_law_1011 11 rfl ?_
  refine jr_icmp_eq X.c 1018 dL_law_1013 (by decide) (fun q1013 => ?_) (fun q1013 => ?_)
  · replace h := cr_if_t q1013 h
    refine jr_sub [0, 1, 2, 3, 4, 5, 6, 7, 8] rfl ?_
    exact t_L_law_b1018 X x6_32 r56 z0_184 V1008  x h kl kr1175
  · replace h := cr_if_f q1013 h
    cases h
def f_L_law_b1000 (nL : Nat) (xs : Nat → Int32) (x6_32 : Int32) (r56 : Int32) (z0_184 : Int32) (r766 : Int32) (r795 : Int32) (z0_1000 : Int32) (W971 : cr_Hp) : Option ((Int32 × cr_Hp) ⊕ cr_Hp) :=
  cr_gd (cr_ix (2 : Int32) 8) (cr_lt (cr_pt W971 159 (2 : Int32).toNatClampNeg z0_1000) (fun (V1000 : cr_Hp) => f_L_law_b1001 nL xs x6_32 r56 z0_184 r766 r795 (W971 162 (0 : Int32).toNatClampNeg) V1000))
set_option maxRecDepth 100000 in
set_option maxHeartbeats 4000000 in
theorem t_L_law_b1000 {p : Program} {l : Launch} {e : Env} {s : State} {m : MethodId} {args : Array Value} {below : List Frame} {meth : Method} {c : Code} {w : cr_Wd} {Q : State → Prop} (X : cr_LX w p s m args meth c) (x6_32 : Int32) (r56 : Int32) (z0_184 : Int32) (r766 : Int32) (r795 : Int32) (z0_1000 : Int32) (W971 : cr_Hp)  (x : (Int32 × cr_Hp) ⊕ cr_Hp) (h : f_L_law_b1000 (cr_zL w) (cr_zx w) x6_32 r56 z0_184 r766 r795 z0_1000 W971 = some x) (kl : ∀ (x6_32 : Int32) (V_l32 : cr_Hp), x = .inl (x6_32, V_l32) → cr_J w 19 p l e room_1 s m args below meth c (cr_ce V_l32) (cr_sl V_l32) Q V_l32 32 [(0, .ref (cr_zb w)), (1, .ref (w.1 152)), (2, .ref (w.1 159)), (3, .ref (w.1 160)), (4, .ref (w.1 161)), (5, .ref (w.1 162)), (6, .int x6_32)] []) (kr1175 : ∀ (V_e32_1175 : cr_Hp), x = .inr V_e32_1175 → cr_J w 19 p l e room_1 s m args below meth c (cr_ce V_e32_1175) (cr_sl V_e32_1175) Q V_e32_1175 1175 [] []) : cr_J w 19 p l e room_1 s m args below meth c (cr_ce W971) (cr_sl W971) Q W971 1000 [(0, .ref (cr_zb w)), (1, .ref (w.1 152)), (2, .ref (w.1 159)), (3, .ref (w.1 160)), (4, .ref (w.1 161)), (5, .ref (w.1 162)), (6, .int x6_32), (8, .int r56), (12, .int z0_184), (14, .int r766), (15, .int ((1 : Int32) + r795)), (17, .int (W971 162 (0 : Int32).toNatClampNeg))] [.int z0_1000, .int (2 : Int32), .ref (w.1 159)] := by
  unfold f_L_law_b1000 at h
  obtain ⟨hi1000, h⟩ := cr_gd_s h
  obtain ⟨V1000, eV1000, h⟩ := cr_lt_s h
  refine jr_iast X.c (cr_l_iv X.k0) (cr_row_iv X.k0) hi1000 dL_law_1000 eV1000 ?_
  refine jr_cev (by rw [eV1000]; exact congrFun (cr_pt_ne (by decide)) 0) ?_
  refine jr_sub [0, 1, 2, 3, 4, 5, 6, 7, 8, 9, 10, 11] rfl ?_
  exact t_L_law_b1001 X x6_32 r56 z0_184 r766 r795 (W971 162 (0 : Int32).toNatClampNeg) V1000  x h kl kr1175
def f_L_law_b946 (nL : Nat) (xs : Nat → Int32) (x6_32 : Int32) (r56 : Int32) (z0_184 : Int32) (r766 : Int32) (r795 : Int32) (y16_946 : Int32) (V_946 : cr_Hp) : Option ((Int32 × cr_Hp) ⊕ cr_Hp) :=
  if y16_946 = 0 then (f_L_law_b1001 nL xs x6_32 r56 z0_184 r766 r795 (-1003 : Int32) V_946) else (cr_gd (cr_ix (2 : Int32) 8) (cr_bd (f_L_flick 163 159 160 161 162 (V_946 159 (2 : Int32).toNatClampNeg) z0_184 r766 ((1 : Int32) + r795) V_946) (fun (V971 : cr_Hp) => cr_gd (V971 999 0 = V_946 999 0 ∧ (V_946 999 0).toNatClampNeg < 60000) (cr_lt (cr_pt V971 999 0 (nI ((V_946 999 0).toNatClampNeg + 1))) (fun (W971 : cr_Hp) => cr_gd (cr_ix (0 : Int32) 5) (if (W971 162 (0 : Int32).toNatClampNeg) = 0 then (cr_gd (cr_ix (2 : Int32) 8) (f_L_law_b1000 nL xs x6_32 r56 z0_184 r766 r795 (((W971 159 (2 : Int32).toNatClampNeg) + (1 : Int32)) - ((W971 159 (2 : Int32).toNatClampNeg) + (1 : Int32)) / (3 : Int32) * (3 : Int32)) W971)) else (cr_gd (cr_ix (2 : Int32) 8) (f_L_law_b1000 nL xs x6_32 r56 z0_184 r766 r795 (W971 159 (2 : Int32).toNatClampNeg) W971))))))))
set_option maxRecDepth 100000 in
set_option maxHeartbeats 4000000 in
theorem t_L_law_b946 {p : Program} {l : Launch} {e : Env} {s : State} {m : MethodId} {args : Array Value} {below : List Frame} {meth : Method} {c : Code} {w : cr_Wd} {Q : State → Prop} (X : cr_LX w p s m args meth c) (x6_32 : Int32) (r56 : Int32) (z0_184 : Int32) (r766 : Int32) (r795 : Int32) (y16_946 : Int32) (V_946 : cr_Hp)  (x : (Int32 × cr_Hp) ⊕ cr_Hp) (h : f_L_law_b946 (cr_zL w) (cr_zx w) x6_32 r56 z0_184 r766 r795 y16_946 V_946 = some x) (kl : ∀ (x6_32 : Int32) (V_l32 : cr_Hp), x = .inl (x6_32, V_l32) → cr_J w 19 p l e room_1 s m args below meth c (cr_ce V_l32) (cr_sl V_l32) Q V_l32 32 [(0, .ref (cr_zb w)), (1, .ref (w.1 152)), (2, .ref (w.1 159)), (3, .ref (w.1 160)), (4, .ref (w.1 161)), (5, .ref (w.1 162)), (6, .int x6_32)] []) (kr1175 : ∀ (V_e32_1175 : cr_Hp), x = .inr V_e32_1175 → cr_J w 19 p l e room_1 s m args below meth c (cr_ce V_e32_1175) (cr_sl V_e32_1175) Q V_e32_1175 1175 [] []) : cr_J w 19 p l e room_1 s m args below meth c (cr_ce V_946) (cr_sl V_946) Q V_946 946 [(0, .ref (cr_zb w)), (1, .ref (w.1 152)), (2, .ref (w.1 159)), (3, .ref (w.1 160)), (4, .ref (w.1 161)), (5, .ref (w.1 162)), (6, .int x6_32), (8, .int r56), (12, .int z0_184), (14, .int r766), (15, .int ((1 : Int32) + r795)), (16, .int y16_946)] [] := by
  unfold f_L_law_b946 at h
  refine jr_sipush X.c (v := (-1003 : Int32)) dL_law_946 (by decide) ?_
  refine jr_istore X.c (lv2 := [(17, .int (-1003 : Int32)), (0, .ref (cr_zb w)), (1, .ref (w.1 152)), (2, .ref (w.1 159)), (3, .ref (w.1 160)), (4, .ref (w.1 161)), (5, .ref (w.1 162)), (6, .int x6_32), (8, .int r56), (12, .int z0_184), (14, .int r766), (15, .int ((1 : Int32) + r795)), (16, .int y16_946)]) dL_law_949 (by decide) rfl ?_
  refine jr_iload X.c dL_law_951 12 rfl ?_
  refine jr_if_eq X.c 1001 dL_law_953 (by decide) (fun q953 => ?_) (fun q953 => ?_)
  · replace h := cr_if_t q953 h
    refine jr_sub [1, 2, 3, 4, 5, 6, 7, 8, 9, 10, 11, 0] rfl ?_
    exact t_L_law_b1001 X x6_32 r56 z0_184 r766 r795 (-1003 : Int32) V_946  x h kl kr1175
  · replace h := cr_if_f q953 h
    refine jr_aload_n X.c dL_law_956 rfl 3 rfl ?_
    refine jr_iconst X.c (v := (2 : Int32)) dL_law_957 (by decide) ?_
    obtain ⟨hi958, h⟩ := cr_gd_s h
    refine jr_iald X.c (cr_l_iv X.k0) ((cr_row_iv X.k0) _) hi958 dL_law_958 ?_
    refine jr_iload X.c dL_law_959 9 rfl ?_
    refine jr_iload X.c dL_law_961 10 rfl ?_
    refine jr_iload X.c dL_law_963 11 rfl ?_
    refine jr_aload_n X.c dL_law_965 rfl 3 rfl ?_
    refine jr_aload_n X.c dL_law_966 rfl 4 rfl ?_
    refine jr_aload X.c dL_law_967 5 rfl ?_
    refine jr_aload X.c dL_law_969 6 rfl ?_
    obtain ⟨V971, hr971, h⟩ := cr_bd_s h
    obtain ⟨hg971, h⟩ := cr_gd_s h
    obtain ⟨W971, eW971, h⟩ := cr_lt_s h
    refine jc_Av X.c (As := [.int (V_946 159 (2 : Int32).toNatClampNeg), .int z0_184, .int r766, .int ((1 : Int32) + r795), .ref (w.1 159), .ref (w.1 160), .ref (w.1 161), .ref (w.1 162)]) (V1 := V971) 8 (m_L_flick l w V_946 163 159 160 161 162 (V_946 159 (2 : Int32).toNatClampNeg) z0_184 r766 ((1 : Int32) + r795) X.n X.k0 X.k1 X.k2 X.k3 V971 hr971) ⟨rfl, rfl⟩ ml_L_27 st_L_flick in_L cd_L_flick hd_L_flick ⟨Nat.le_of_ble_eq_true rfl, Nat.le_of_ble_eq_true rfl⟩ (cr_ce_lea _ (by decide) (by decide)) rfl (Nat.le_of_ble_eq_true rfl) rfl dL_law_971 ?_
    refine jr_cea X.n hg971.2 (by decide) (by decide) eW971 ?_
    refine jr_aload X.c dL_law_974 6 rfl ?_
    refine jr_iconst X.c (v := (0 : Int32)) dL_law_976 (by decide) ?_
    obtain ⟨hi977, h⟩ := cr_gd_s h
    refine jr_iald X.c (cr_l_iv X.k3) ((cr_row_iv X.k3) _) hi977 dL_law_977 ?_
    refine jr_istore X.c (lv2 := [(17, .int (W971 162 (0 : Int32).toNatClampNeg)), (0, .ref (cr_zb w)), (1, .ref (w.1 152)), (2, .ref (w.1 159)), (3, .ref (w.1 160)), (4, .ref (w.1 161)), (5, .ref (w.1 162)), (6, .int x6_32), (8, .int r56), (12, .int z0_184), (14, .int r766), (15, .int ((1 : Int32) + r795)), (16, .int y16_946)]) dL_law_978 (by decide) rfl ?_
    refine jr_aload_n X.c dL_law_980 rfl 3 rfl ?_
    refine jr_iconst X.c (v := (2 : Int32)) dL_law_981 (by decide) ?_
    refine jr_iload X.c dL_law_982 0 rfl ?_
    refine jr_if_ne X.c 997 dL_law_984 (by decide) (fun q984 => ?_) (fun q984 => ?_)
    · replace h := cr_if_f q984 h
      refine jr_aload_n X.c dL_law_997 rfl 3 rfl ?_
      refine jr_iconst X.c (v := (2 : Int32)) dL_law_998 (by decide) ?_
      obtain ⟨hi999, h⟩ := cr_gd_s h
      refine jr_iald X.c (cr_l_iv X.k0) ((cr_row_iv X.k0) _) hi999 dL_law_999 ?_
      refine jr_sub [1, 2, 3, 4, 5, 6, 7, 8, 9, 10, 11, 0] rfl ?_
      exact t_L_law_b1000 X x6_32 r56 z0_184 r766 r795 (W971 159 (2 : Int32).toNatClampNeg) W971  x h kl kr1175
    · replace h := cr_if_t q984 h
      refine jr_aload_n X.c dL_law_987 rfl 3 rfl ?_
      refine jr_iconst X.c (v := (2 : Int32)) dL_law_988 (by decide) ?_
      obtain ⟨hi989, h⟩ := cr_gd_s h
      refine jr_iald X.c (cr_l_iv X.k0) ((cr_row_iv X.k0) _) hi989 dL_law_989 ?_
      refine jr_iconst X.c (v := (1 : Int32)) dL_law_990 (by decide) ?_
      refine jr_iadd X.c dL_law_991 ?_
      refine jr_iconst X.c (v := (3 : Int32)) dL_law_992 (by decide) ?_
      refine jr_irem X.c dL_law_993 (by decide) ?_
      refine jr_goto X.c 1000 dL_law_994 (by decide) ?_
      refine jr_sub [1, 2, 3, 4, 5, 6, 7, 8, 9, 10, 11, 0] rfl ?_
      exact t_L_law_b1000 X x6_32 r56 z0_184 r766 r795 (((W971 159 (2 : Int32).toNatClampNeg) + (1 : Int32)) - ((W971 159 (2 : Int32).toNatClampNeg) + (1 : Int32)) / (3 : Int32) * (3 : Int32)) W971  x h kl kr1175
def f_L_law_l907 (nL : Nat) (xs : Nat → Int32) (x6_32 : Int32) (r56 : Int32) (z0_184 : Int32) (r766 : Int32) (r795 : Int32) (V_l907 : cr_Hp) : Option (cr_Hp ⊕ cr_Hp) :=
  cr_gd (cr_ix (2 : Int32) 8) (cr_gd (cr_ix (((5 : Int32) * z0_184) + (3 : Int32)) 60) (if (V_l907 159 (2 : Int32).toNatClampNeg) = (V_l907 160 (((5 : Int32) * z0_184) + (3 : Int32)).toNatClampNeg) then (some (.inr V_l907)) else (cr_gd (cr_ix (2 : Int32) 8) (cr_gd (cr_ix (2 : Int32) 8) (cr_lt (cr_pt V_l907 159 (2 : Int32).toNatClampNeg (((V_l907 159 (2 : Int32).toNatClampNeg) + (1 : Int32)) - ((V_l907 159 (2 : Int32).toNatClampNeg) + (1 : Int32)) / (3 : Int32) * (3 : Int32))) (fun (V930 : cr_Hp) => cr_b2 (f_X7_pass  V930) (fun (r932 : Int32) (V932 : cr_Hp) => cr_gd (V932 999 0 = V930 999 0) (cr_gd (cr_ix (2 : Int32) 8) (if r932 = (V932 159 (2 : Int32).toNatClampNeg) then (some (.inl V932)) else (none))))))))))
set_option maxRecDepth 100000 in
set_option maxHeartbeats 4000000 in
theorem t_L_law_l907 {p : Program} {l : Launch} {e : Env} {s : State} {m : MethodId} {args : Array Value} {below : List Frame} {meth : Method} {c : Code} {w : cr_Wd} {Q : State → Prop} (X : cr_LX w p s m args meth c) (x6_32 : Int32) (r56 : Int32) (z0_184 : Int32) (r766 : Int32) (r795 : Int32) (V_l907 : cr_Hp)  (x : cr_Hp ⊕ cr_Hp) (h : f_L_law_l907 (cr_zL w) (cr_zx w) x6_32 r56 z0_184 r766 r795 V_l907 = some x) (kl : ∀ (V_l907 : cr_Hp), x = .inl V_l907 → cr_J w 19 p l e room_1 s m args below meth c (cr_ce V_l907) (cr_sl V_l907) Q V_l907 907 [(0, .ref (cr_zb w)), (1, .ref (w.1 152)), (2, .ref (w.1 159)), (3, .ref (w.1 160)), (4, .ref (w.1 161)), (5, .ref (w.1 162)), (6, .int x6_32), (8, .int r56), (12, .int z0_184), (14, .int r766), (15, .int ((1 : Int32) + r795))] []) (kr943 : ∀ (V_e907_943 : cr_Hp), x = .inr V_e907_943 → cr_J w 19 p l e room_1 s m args below meth c (cr_ce V_e907_943) (cr_sl V_e907_943) Q V_e907_943 943 [(0, .ref (cr_zb w)), (1, .ref (w.1 152)), (2, .ref (w.1 159)), (3, .ref (w.1 160)), (4, .ref (w.1 161)), (5, .ref (w.1 162)), (6, .int x6_32), (8, .int r56), (12, .int z0_184), (14, .int r766), (15, .int ((1 : Int32) + r795))] []) : cr_J w 19 p l e room_1 s m args below meth c (cr_ce V_l907) (cr_sl V_l907) Q V_l907 907 [(0, .ref (cr_zb w)), (1, .ref (w.1 152)), (2, .ref (w.1 159)), (3, .ref (w.1 160)), (4, .ref (w.1 161)), (5, .ref (w.1 162)), (6, .int x6_32), (8, .int r56), (12, .int z0_184), (14, .int r766), (15, .int ((1 : Int32) + r795))] [] := by
  unfold f_L_law_l907 at h
  refine jr_aload_n X.c dL_law_907 rfl 2 rfl ?_
  refine jr_iconst X.c (v := (2 : Int32)) dL_law_908 (by decide) ?_
  obtain ⟨hi909, h⟩ := cr_gd_s h
  refine jr_iald X.c (cr_l_iv X.k0) ((cr_row_iv X.k0) _) hi909 dL_law_909 ?_
  refine jr_aload_n X.c dL_law_910 rfl 3 rfl ?_
  refine jr_iconst X.c (v := (5 : Int32)) dL_law_911 (by decide) ?_
  refine jr_iload X.c dL_law_912 8 rfl ?_
  refine jr_imul X.c dL_law_914 ?_
  refine jr_iconst X.c (v := (3 : Int32)) dL_law_915 (by decide) ?_
  refine jr_iadd X.c dL_law_916 ?_
  obtain ⟨hi917, h⟩ := cr_gd_s h
  refine jr_iald X.c (cr_l_iv X.k1) ((cr_row_iv X.k1) _) hi917 dL_law_917 ?_
  refine jr_icmp_eq X.c 943 dL_law_918 (by decide) (fun q918 => ?_) (fun q918 => ?_)
  · replace h := cr_if_t q918 h
    cases h
    refine jr_sub [0, 1, 2, 3, 4, 5, 6, 7, 8, 9, 10] rfl ?_
    exact kr943 V_l907 rfl
  · replace h := cr_if_f q918 h
    refine jr_aload_n X.c dL_law_921 rfl 2 rfl ?_
    refine jr_iconst X.c (v := (2 : Int32)) dL_law_922 (by decide) ?_
    refine jr_aload_n X.c dL_law_923 rfl 2 rfl ?_
    refine jr_iconst X.c (v := (2 : Int32)) dL_law_924 (by decide) ?_
    obtain ⟨hi925, h⟩ := cr_gd_s h
    refine jr_iald X.c (cr_l_iv X.k0) ((cr_row_iv X.k0) _) hi925 dL_law_925 ?_
    refine jr_iconst X.c (v := (1 : Int32)) dL_law_926 (by decide) ?_
    refine jr_iadd X.c dL_law_927 ?_
    refine jr_iconst X.c (v := (3 : Int32)) dL_law_928 (by decide) ?_
    refine jr_irem X.c dL_law_929 (by decide) ?_
    obtain ⟨hi930, h⟩ := cr_gd_s h
    obtain ⟨V930, eV930, h⟩ := cr_lt_s h
    refine jr_iast X.c (cr_l_iv X.k0) (cr_row_iv X.k0) hi930 dL_law_930 eV930 ?_
    refine jr_cev (by rw [eV930]; exact congrFun (cr_pt_ne (by decide)) 0) ?_
    refine jr_aload_n X.c dL_law_931 rfl 1 rfl ?_
    obtain ⟨r932, V932, hr932, h⟩ := cr_b2_s h
    obtain ⟨hg932, h⟩ := cr_gd_s h
    refine jc_Vi X.c (As := []) (V1 := V932) (C := RX7) (T := TX7) (N := 5) (ci := 7) 0 (m_X7_pass l w V930   (r932, V932) hr932) ⟨rfl, rfl⟩ ml_L_77 im_X7_pass sl_X7_pass in_X7 cd_X7_pass hd_X7_pass ⟨Nat.le_of_ble_eq_true rfl, Nat.le_of_ble_eq_true rfl⟩ (cr_ce_le _) rfl (Nat.le_of_ble_eq_true rfl) (Or.inl (by decide)) ((cr_row_152 w) _) rfl rfl dL_law_932 ?_
    refine jr_cev hg932 ?_
    refine jr_aload_n X.c dL_law_935 rfl 2 rfl ?_
    refine jr_iconst X.c (v := (2 : Int32)) dL_law_936 (by decide) ?_
    obtain ⟨hi937, h⟩ := cr_gd_s h
    refine jr_iald X.c (cr_l_iv X.k0) ((cr_row_iv X.k0) _) hi937 dL_law_937 ?_
    refine jr_icmp_eq X.c 907 dL_law_938 (by decide) (fun q938 => ?_) (fun q938 => ?_)
    · replace h := cr_if_t q938 h
      cases h
      refine jr_sub [0, 1, 2, 3, 4, 5, 6, 7, 8, 9, 10] rfl ?_
      exact kl V932 rfl
    · replace h := cr_if_f q938 h
      cases h
def f_L_law_b883 (nL : Nat) (xs : Nat → Int32) (x6_32 : Int32) (r56 : Int32) (z0_184 : Int32) (z0_208 : Int32) (r766 : Int32) (r795 : Int32) (z0_883 : Int32) (V_e804_859 : cr_Hp) : Option ((Int32 × cr_Hp) ⊕ cr_Hp) :=
  if z0_883 = 0 then (if z0_208 = 0 then (f_L_law_b946 nL xs x6_32 r56 z0_184 r766 r795 z0_883 V_e804_859) else (cr_bd (f_L_low (r56 >>> ((11 : Int32) &&& 31)) (3 : Int32)) (fun (r901 : Int32) => if r901 ≤ 0 then (f_L_law_b946 nL xs x6_32 r56 z0_184 r766 r795 z0_883 V_e804_859) else (cr_bd (cr_it (fun (q : cr_Hp) => f_L_law_l907 nL xs x6_32 r56 z0_184 r766 r795  q) cr_FU V_e804_859) (fun (V_e907_943 : cr_Hp) => f_L_law_b946 nL xs x6_32 r56 z0_184 r766 r795 (1 : Int32) V_e907_943))))) else (f_L_law_b946 nL xs x6_32 r56 z0_184 r766 r795 z0_883 V_e804_859)
set_option maxRecDepth 100000 in
set_option maxHeartbeats 4000000 in
theorem t_L_law_b883 {p : Program} {l : Launch} {e : Env} {s : State} {m : MethodId} {args : Array Value} {below : List Frame} {meth : Method} {c : Code} {w : cr_Wd} {Q : State → Prop} (X : cr_LX w p s m args meth c) (x6_32 : Int32) (r56 : Int32) (z0_184 : Int32) (z0_208 : Int32) (r766 : Int32) (r795 : Int32) (z0_883 : Int32) (V_e804_859 : cr_Hp)  (x : (Int32 × cr_Hp) ⊕ cr_Hp) (h : f_L_law_b883 (cr_zL w) (cr_zx w) x6_32 r56 z0_184 z0_208 r766 r795 z0_883 V_e804_859 = some x) (kl : ∀ (x6_32 : Int32) (V_l32 : cr_Hp), x = .inl (x6_32, V_l32) → cr_J w 19 p l e room_1 s m args below meth c (cr_ce V_l32) (cr_sl V_l32) Q V_l32 32 [(0, .ref (cr_zb w)), (1, .ref (w.1 152)), (2, .ref (w.1 159)), (3, .ref (w.1 160)), (4, .ref (w.1 161)), (5, .ref (w.1 162)), (6, .int x6_32)] []) (kr1175 : ∀ (V_e32_1175 : cr_Hp), x = .inr V_e32_1175 → cr_J w 19 p l e room_1 s m args below meth c (cr_ce V_e32_1175) (cr_sl V_e32_1175) Q V_e32_1175 1175 [] []) : cr_J w 19 p l e room_1 s m args below meth c (cr_ce V_e804_859) (cr_sl V_e804_859) Q V_e804_859 883 [(0, .ref (cr_zb w)), (1, .ref (w.1 152)), (2, .ref (w.1 159)), (3, .ref (w.1 160)), (4, .ref (w.1 161)), (5, .ref (w.1 162)), (6, .int x6_32), (8, .int r56), (12, .int z0_184), (13, .int z0_208), (14, .int r766), (15, .int ((1 : Int32) + r795))] [.int z0_883] := by
  unfold f_L_law_b883 at h
  refine jr_istore X.c (lv2 := [(16, .int z0_883), (0, .ref (cr_zb w)), (1, .ref (w.1 152)), (2, .ref (w.1 159)), (3, .ref (w.1 160)), (4, .ref (w.1 161)), (5, .ref (w.1 162)), (6, .int x6_32), (8, .int r56), (12, .int z0_184), (13, .int z0_208), (14, .int r766), (15, .int ((1 : Int32) + r795))]) dL_law_883 (by decide) rfl ?_
  refine jr_iload X.c dL_law_885 0 rfl ?_
  refine jr_if_ne X.c 946 dL_law_887 (by decide) (fun q887 => ?_) (fun q887 => ?_)
  · replace h := cr_if_f q887 h
    refine jr_sub [1, 2, 3, 4, 5, 6, 7, 8, 9, 11, 12, 0] rfl ?_
    exact t_L_law_b946 X x6_32 r56 z0_184 r766 r795 z0_883 V_e804_859  x h kl kr1175
  · replace h := cr_if_t q887 h
    refine jr_iload X.c dL_law_890 10 rfl ?_
    refine jr_if_eq X.c 946 dL_law_892 (by decide) (fun q892 => ?_) (fun q892 => ?_)
    · replace h := cr_if_t q892 h
      refine jr_sub [1, 2, 3, 4, 5, 6, 7, 8, 9, 11, 12, 0] rfl ?_
      exact t_L_law_b946 X x6_32 r56 z0_184 r766 r795 z0_883 V_e804_859  x h kl kr1175
    · replace h := cr_if_f q892 h
      refine jr_iload X.c dL_law_895 8 rfl ?_
      refine jr_bipush X.c (v := (11 : Int32)) dL_law_897 (by decide) ?_
      refine jr_ishr X.c dL_law_899 ?_
      refine jr_iconst X.c (v := (3 : Int32)) dL_law_900 (by decide) ?_
      obtain ⟨r901, hr901, h⟩ := cr_bd_s h
      refine jc_Si X.c (As := [.int (r56 >>> ((11 : Int32) &&& 31)), .int (3 : Int32)]) (V1 := V_e804_859) 2 (m_L_low l w V_e804_859 (r56 >>> ((11 : Int32) &&& 31)) (3 : Int32)  r901 hr901) ⟨rfl, rfl⟩ ml_L_58 st_L_low in_L cd_L_low hd_L_low ⟨Nat.le_of_ble_eq_true rfl, Nat.le_of_ble_eq_true rfl⟩ (cr_ce_le _) rfl (Nat.le_of_ble_eq_true rfl) rfl dL_law_901 ?_
      refine jr_if_le X.c 946 dL_law_904 (by decide) (fun q904 => ?_) (fun q904 => ?_)
      · replace h := cr_if_t q904 h
        refine jr_sub [1, 2, 3, 4, 5, 6, 7, 8, 9, 11, 12, 0] rfl ?_
        exact t_L_law_b946 X x6_32 r56 z0_184 r766 r795 z0_883 V_e804_859  x h kl kr1175
      · replace h := cr_if_f q904 h
        obtain ⟨e907, he907, h⟩ := cr_bd_s h
        have kx943 : ∀ (V_e907_943 : cr_Hp), e907 = V_e907_943 → cr_J w 19 p l e room_1 s m args below meth c (cr_ce V_e907_943) (cr_sl V_e907_943) Q V_e907_943 943 [(0, .ref (cr_zb w)), (1, .ref (w.1 152)), (2, .ref (w.1 159)), (3, .ref (w.1 160)), (4, .ref (w.1 161)), (5, .ref (w.1 162)), (6, .int x6_32), (8, .int r56), (12, .int z0_184), (14, .int r766), (15, .int ((1 : Int32) + r795))] [] := by
          intro V_e907_943 qx
          rw [qx] at h
          refine jr_iconst X.c (v := (1 : Int32)) dL_law_943 (by decide) ?_
          refine jr_istore X.c (lv2 := [(16, .int (1 : Int32)), (0, .ref (cr_zb w)), (1, .ref (w.1 152)), (2, .ref (w.1 159)), (3, .ref (w.1 160)), (4, .ref (w.1 161)), (5, .ref (w.1 162)), (6, .int x6_32), (8, .int r56), (12, .int z0_184), (14, .int r766), (15, .int ((1 : Int32) + r795))]) dL_law_944 (by decide) rfl ?_
          refine jr_sub [1, 2, 3, 4, 5, 6, 7, 8, 9, 10, 11, 0] rfl ?_
          exact t_L_law_b946 X x6_32 r56 z0_184 r766 r795 (1 : Int32) V_e907_943  x h kl kr1175
        refine jr_sub [1, 2, 3, 4, 5, 6, 7, 8, 9, 11, 12] rfl ?_
        refine cr_it_W (f := (fun (q : cr_Hp) => f_L_law_l907 (cr_zL w) (cr_zx w) x6_32 r56 z0_184 r766 r795  q)) (P := fun (q : cr_Hp) => cr_J w 19 p l e room_1 s m args below meth c (cr_ce q) (cr_sl q) Q q 907 [(0, .ref (cr_zb w)), (1, .ref (w.1 152)), (2, .ref (w.1 159)), (3, .ref (w.1 160)), (4, .ref (w.1 161)), (5, .ref (w.1 162)), (6, .int x6_32), (8, .int r56), (12, .int z0_184), (14, .int r766), (15, .int ((1 : Int32) + r795))] []) (K := fun z => z = e907) (fun q x hx kl kr => ?_) cr_FU V_e804_859 e907 he907 rfl
        obtain ⟨V_l907, rfl⟩ : ∃ z, z = q := ⟨q, rfl⟩
        exact t_L_law_l907 X x6_32 r56 z0_184 r766 r795 V_l907  x hx (fun V_l907 ez => kl _ ez) (fun V_e907_943 ez => kx943 V_e907_943 ((kr _ ez).symm))
def f_L_law_b882 (nL : Nat) (xs : Nat → Int32) (x6_32 : Int32) (r56 : Int32) (z0_184 : Int32) (z0_208 : Int32) (r766 : Int32) (r795 : Int32) (V_e804_859 : cr_Hp) : Option ((Int32 × cr_Hp) ⊕ cr_Hp) :=
  f_L_law_b883 nL xs x6_32 r56 z0_184 z0_208 r766 r795 (0 : Int32) V_e804_859
set_option maxRecDepth 100000 in
set_option maxHeartbeats 4000000 in
theorem t_L_law_b882 {p : Program} {l : Launch} {e : Env} {s : State} {m : MethodId} {args : Array Value} {below : List Frame} {meth : Method} {c : Code} {w : cr_Wd} {Q : State → Prop} (X : cr_LX w p s m args meth c) (x6_32 : Int32) (r56 : Int32) (z0_184 : Int32) (z0_208 : Int32) (r766 : Int32) (r795 : Int32) (V_e804_859 : cr_Hp)  (x : (Int32 × cr_Hp) ⊕ cr_Hp) (h : f_L_law_b882 (cr_zL w) (cr_zx w) x6_32 r56 z0_184 z0_208 r766 r795 V_e804_859 = some x) (kl : ∀ (x6_32 : Int32) (V_l32 : cr_Hp), x = .inl (x6_32, V_l32) → cr_J w 19 p l e room_1 s m args below meth c (cr_ce V_l32) (cr_sl V_l32) Q V_l32 32 [(0, .ref (cr_zb w)), (1, .ref (w.1 152)), (2, .ref (w.1 159)), (3, .ref (w.1 160)), (4, .ref (w.1 161)), (5, .ref (w.1 162)), (6, .int x6_32)] []) (kr1175 : ∀ (V_e32_1175 : cr_Hp), x = .inr V_e32_1175 → cr_J w 19 p l e room_1 s m args below meth c (cr_ce V_e32_1175) (cr_sl V_e32_1175) Q V_e32_1175 1175 [] []) : cr_J w 19 p l e room_1 s m args below meth c (cr_ce V_e804_859) (cr_sl V_e804_859) Q V_e804_859 882 [(0, .ref (cr_zb w)), (1, .ref (w.1 152)), (2, .ref (w.1 159)), (3, .ref (w.1 160)), (4, .ref (w.1 161)), (5, .ref (w.1 162)), (6, .int x6_32), (8, .int r56), (12, .int z0_184), (13, .int z0_208), (14, .int r766), (15, .int ((1 : Int32) + r795))] [] := by
  unfold f_L_law_b882 at h
  refine jr_iconst X.c (v := (0 : Int32)) dL_law_882 (by decide) ?_
  refine jr_sub [0, 1, 2, 3, 4, 5, 6, 7, 8, 9, 10, 11] rfl ?_
  exact t_L_law_b883 X x6_32 r56 z0_184 z0_208 r766 r795 (0 : Int32) V_e804_859  x h kl kr1175
def f_L_law_b795 (nL : Nat) (xs : Nat → Int32) (x6_32 : Int32) (r44 : Int32) (r56 : Int32) (z0_184 : Int32) (z0_208 : Int32) (r766 : Int32) (z0_795 : Int32) (V_l32 : cr_Hp) : Option ((Int32 × cr_Hp) ⊕ cr_Hp) :=
  cr_bd (f_L_low (r44 >>> ((5 : Int32) &&& 31)) z0_795) (fun (r795 : Int32) => cr_bd (cr_it (fun (q : Int32 × cr_Hp) => f_L_law_l804 nL xs x6_32 r56 z0_184 z0_208 r766 r795 q.1 q.2) cr_FU ((0 : Int32), V_l32)) (fun (V_e804_859 : cr_Hp) => if z0_208 = 0 then (f_L_law_b882 nL xs x6_32 r56 z0_184 z0_208 r766 r795 V_e804_859) else (cr_gd (cr_ix (((5 : Int32) * z0_184) + (3 : Int32)) 60) (cr_gd (cr_ix (2 : Int32) 8) (if (V_e804_859 160 (((5 : Int32) * z0_184) + (3 : Int32)).toNatClampNeg) = (V_e804_859 159 (2 : Int32).toNatClampNeg) then (f_L_law_b883 nL xs x6_32 r56 z0_184 z0_208 r766 r795 (1 : Int32) V_e804_859) else (f_L_law_b882 nL xs x6_32 r56 z0_184 z0_208 r766 r795 V_e804_859))))))
set_option maxRecDepth 100000 in
set_option maxHeartbeats 4000000 in
theorem t_L_law_b795 {p : Program} {l : Launch} {e : Env} {s : State} {m : MethodId} {args : Array Value} {below : List Frame} {meth : Method} {c : Code} {w : cr_Wd} {Q : State → Prop} (X : cr_LX w p s m args meth c) (x6_32 : Int32) (r44 : Int32) (r56 : Int32) (z0_184 : Int32) (z0_208 : Int32) (r766 : Int32) (z0_795 : Int32) (V_l32 : cr_Hp)  (x : (Int32 × cr_Hp) ⊕ cr_Hp) (h : f_L_law_b795 (cr_zL w) (cr_zx w) x6_32 r44 r56 z0_184 z0_208 r766 z0_795 V_l32 = some x) (kl : ∀ (x6_32 : Int32) (V_l32 : cr_Hp), x = .inl (x6_32, V_l32) → cr_J w 19 p l e room_1 s m args below meth c (cr_ce V_l32) (cr_sl V_l32) Q V_l32 32 [(0, .ref (cr_zb w)), (1, .ref (w.1 152)), (2, .ref (w.1 159)), (3, .ref (w.1 160)), (4, .ref (w.1 161)), (5, .ref (w.1 162)), (6, .int x6_32)] []) (kr1175 : ∀ (V_e32_1175 : cr_Hp), x = .inr V_e32_1175 → cr_J w 19 p l e room_1 s m args below meth c (cr_ce V_e32_1175) (cr_sl V_e32_1175) Q V_e32_1175 1175 [] []) : cr_J w 19 p l e room_1 s m args below meth c (cr_ce V_l32) (cr_sl V_l32) Q V_l32 795 [(0, .ref (cr_zb w)), (1, .ref (w.1 152)), (2, .ref (w.1 159)), (3, .ref (w.1 160)), (4, .ref (w.1 161)), (5, .ref (w.1 162)), (6, .int x6_32), (8, .int r56), (12, .int z0_184), (13, .int z0_208), (14, .int r766)] [.int z0_795, .int (r44 >>> ((5 : Int32) &&& 31)), .int (1 : Int32)] := by
  unfold f_L_law_b795 at h
  obtain ⟨r795, hr795, h⟩ := cr_bd_s h
  refine jc_Si X.c (As := [.int (r44 >>> ((5 : Int32) &&& 31)), .int z0_795]) (V1 := V_l32) 2 (m_L_low l w V_l32 (r44 >>> ((5 : Int32) &&& 31)) z0_795  r795 hr795) ⟨rfl, rfl⟩ ml_L_58 st_L_low in_L cd_L_low hd_L_low ⟨Nat.le_of_ble_eq_true rfl, Nat.le_of_ble_eq_true rfl⟩ (cr_ce_le _) rfl (Nat.le_of_ble_eq_true rfl) rfl dL_law_795 ?_
  refine jr_iadd X.c dL_law_798 ?_
  refine jr_istore X.c (lv2 := [(15, .int ((1 : Int32) + r795)), (0, .ref (cr_zb w)), (1, .ref (w.1 152)), (2, .ref (w.1 159)), (3, .ref (w.1 160)), (4, .ref (w.1 161)), (5, .ref (w.1 162)), (6, .int x6_32), (8, .int r56), (12, .int z0_184), (13, .int z0_208), (14, .int r766)]) dL_law_799 (by decide) rfl ?_
  refine jr_iconst X.c (v := (0 : Int32)) dL_law_801 (by decide) ?_
  refine jr_istore X.c (lv2 := [(16, .int (0 : Int32)), (15, .int ((1 : Int32) + r795)), (0, .ref (cr_zb w)), (1, .ref (w.1 152)), (2, .ref (w.1 159)), (3, .ref (w.1 160)), (4, .ref (w.1 161)), (5, .ref (w.1 162)), (6, .int x6_32), (8, .int r56), (12, .int z0_184), (13, .int z0_208), (14, .int r766)]) dL_law_802 (by decide) rfl ?_
  obtain ⟨e804, he804, h⟩ := cr_bd_s h
  have kx859 : ∀ (V_e804_859 : cr_Hp), e804 = V_e804_859 → cr_J w 19 p l e room_1 s m args below meth c (cr_ce V_e804_859) (cr_sl V_e804_859) Q V_e804_859 859 [(0, .ref (cr_zb w)), (1, .ref (w.1 152)), (2, .ref (w.1 159)), (3, .ref (w.1 160)), (4, .ref (w.1 161)), (5, .ref (w.1 162)), (6, .int x6_32), (8, .int r56), (12, .int z0_184), (13, .int z0_208), (14, .int r766), (15, .int ((1 : Int32) + r795))] [] := by
    intro V_e804_859 qx
    rw [qx] at h
    refine jr_iload X.c dL_law_859 9 rfl ?_
    refine jr_if_eq X.c 882 dL_law_861 (by decide) (fun q861 => ?_) (fun q861 => ?_)
    · replace h := cr_if_t q861 h
      refine jr_sub [0, 1, 2, 3, 4, 5, 6, 7, 8, 9, 10, 11] rfl ?_
      exact t_L_law_b882 X x6_32 r56 z0_184 z0_208 r766 r795 V_e804_859  x h kl kr1175
    · replace h := cr_if_f q861 h
      refine jr_aload_n X.c dL_law_864 rfl 3 rfl ?_
      refine jr_iconst X.c (v := (5 : Int32)) dL_law_865 (by decide) ?_
      refine jr_iload X.c dL_law_866 8 rfl ?_
      refine jr_imul X.c dL_law_868 ?_
      refine jr_iconst X.c (v := (3 : Int32)) dL_law_869 (by decide) ?_
      refine jr_iadd X.c dL_law_870 ?_
      obtain ⟨hi871, h⟩ := cr_gd_s h
      refine jr_iald X.c (cr_l_iv X.k1) ((cr_row_iv X.k1) _) hi871 dL_law_871 ?_
      refine jr_aload_n X.c dL_law_872 rfl 2 rfl ?_
      refine jr_iconst X.c (v := (2 : Int32)) dL_law_873 (by decide) ?_
      obtain ⟨hi874, h⟩ := cr_gd_s h
      refine jr_iald X.c (cr_l_iv X.k0) ((cr_row_iv X.k0) _) hi874 dL_law_874 ?_
      refine jr_icmp_ne X.c 882 dL_law_875 (by decide) (fun q875 => ?_) (fun q875 => ?_)
      · replace h := cr_if_f q875 h
        refine jr_sub [0, 1, 2, 3, 4, 5, 6, 7, 8, 9, 10, 11] rfl ?_
        exact t_L_law_b882 X x6_32 r56 z0_184 z0_208 r766 r795 V_e804_859  x h kl kr1175
      · replace h := cr_if_t q875 h
        refine jr_iconst X.c (v := (1 : Int32)) dL_law_878 (by decide) ?_
        refine jr_goto X.c 883 dL_law_879 (by decide) ?_
        refine jr_sub [0, 1, 2, 3, 4, 5, 6, 7, 8, 9, 10, 11] rfl ?_
        exact t_L_law_b883 X x6_32 r56 z0_184 z0_208 r766 r795 (1 : Int32) V_e804_859  x h kl kr1175
  refine jr_sub [2, 3, 4, 5, 6, 7, 8, 9, 10, 11, 12, 1, 0] rfl ?_
  refine cr_it_W (f := (fun (q : Int32 × cr_Hp) => f_L_law_l804 (cr_zL w) (cr_zx w) x6_32 r56 z0_184 z0_208 r766 r795 q.1 q.2)) (P := fun (q : Int32 × cr_Hp) => cr_J w 19 p l e room_1 s m args below meth c (cr_ce q.2) (cr_sl q.2) Q q.2 804 [(0, .ref (cr_zb w)), (1, .ref (w.1 152)), (2, .ref (w.1 159)), (3, .ref (w.1 160)), (4, .ref (w.1 161)), (5, .ref (w.1 162)), (6, .int x6_32), (8, .int r56), (12, .int z0_184), (13, .int z0_208), (14, .int r766), (15, .int ((1 : Int32) + r795)), (16, .int q.1)] []) (K := fun z => z = e804) (fun q x hx kl kr => ?_) cr_FU ((0 : Int32), V_l32) e804 he804 rfl
  obtain ⟨x16_804, V_l804⟩ := q
  exact t_L_law_l804 X x6_32 r56 z0_184 z0_208 r766 r795 x16_804 V_l804  x hx (fun x16_804 V_l804 ez => kl _ ez) (fun V_e804_859 ez => kx859 V_e804_859 ((kr _ ez).symm))
def f_L_law_l733 (nL : Nat) (xs : Nat → Int32) (x6_32 : Int32) (r56 : Int32) (z0_184 : Int32) (x14_733 : Int32) (V_l733 : cr_Hp) : Option ((Int32 × cr_Hp) ⊕ cr_Hp) :=
  if (8 : Int32) ≤ x14_733 then (some (.inr V_l733)) else (cr_gd (cr_ix x14_733 8) (cr_lt (cr_pt V_l733 159 x14_733.toNatClampNeg (0 : Int32)) (fun (V744 : cr_Hp) => some (.inl ((x14_733 + (1 : Int32)), V744)))))
set_option maxRecDepth 100000 in
set_option maxHeartbeats 4000000 in
theorem t_L_law_l733 {p : Program} {l : Launch} {e : Env} {s : State} {m : MethodId} {args : Array Value} {below : List Frame} {meth : Method} {c : Code} {w : cr_Wd} {Q : State → Prop} (X : cr_LX w p s m args meth c) (x6_32 : Int32) (r56 : Int32) (z0_184 : Int32) (x14_733 : Int32) (V_l733 : cr_Hp)  (x : (Int32 × cr_Hp) ⊕ cr_Hp) (h : f_L_law_l733 (cr_zL w) (cr_zx w) x6_32 r56 z0_184 x14_733 V_l733 = some x) (kl : ∀ (x14_733 : Int32) (V_l733 : cr_Hp), x = .inl (x14_733, V_l733) → cr_J w 19 p l e room_1 s m args below meth c (cr_ce V_l733) (cr_sl V_l733) Q V_l733 733 [(0, .ref (cr_zb w)), (1, .ref (w.1 152)), (2, .ref (w.1 159)), (3, .ref (w.1 160)), (4, .ref (w.1 161)), (5, .ref (w.1 162)), (6, .int x6_32), (8, .int r56), (12, .int z0_184), (14, .int x14_733)] []) (kr751 : ∀ (V_e733_751 : cr_Hp), x = .inr V_e733_751 → cr_J w 19 p l e room_1 s m args below meth c (cr_ce V_e733_751) (cr_sl V_e733_751) Q V_e733_751 751 [(0, .ref (cr_zb w)), (1, .ref (w.1 152)), (2, .ref (w.1 159)), (3, .ref (w.1 160)), (4, .ref (w.1 161)), (5, .ref (w.1 162)), (6, .int x6_32), (8, .int r56), (12, .int z0_184)] []) : cr_J w 19 p l e room_1 s m args below meth c (cr_ce V_l733) (cr_sl V_l733) Q V_l733 733 [(0, .ref (cr_zb w)), (1, .ref (w.1 152)), (2, .ref (w.1 159)), (3, .ref (w.1 160)), (4, .ref (w.1 161)), (5, .ref (w.1 162)), (6, .int x6_32), (8, .int r56), (12, .int z0_184), (14, .int x14_733)] [] := by
  unfold f_L_law_l733 at h
  refine jr_iload X.c dL_law_733 9 rfl ?_
  refine jr_bipush X.c (v := (8 : Int32)) dL_law_735 (by decide) ?_
  refine jr_icmp_ge X.c 751 dL_law_737 (by decide) (fun q737 => ?_) (fun q737 => ?_)
  · replace h := cr_if_t q737 h
    cases h
    refine jr_sub [0, 1, 2, 3, 4, 5, 6, 7, 8] rfl ?_
    exact kr751 V_l733 rfl
  · replace h := cr_if_f q737 h
    refine jr_aload_n X.c dL_law_740 rfl 2 rfl ?_
    refine jr_iload X.c dL_law_741 9 rfl ?_
    refine jr_iconst X.c (v := (0 : Int32)) dL_law_743 (by decide) ?_
    obtain ⟨hi744, h⟩ := cr_gd_s h
    obtain ⟨V744, eV744, h⟩ := cr_lt_s h
    refine jr_iast X.c (cr_l_iv X.k0) (cr_row_iv X.k0) hi744 dL_law_744 eV744 ?_
    refine jr_cev (by rw [eV744]; exact congrFun (cr_pt_ne (by decide)) 0) ?_
    refine jr_iinc X.c (v := (x14_733 + (1 : Int32))) (lv2 := [(14, .int (x14_733 + (1 : Int32))), (0, .ref (cr_zb w)), (1, .ref (w.1 152)), (2, .ref (w.1 159)), (3, .ref (w.1 160)), (4, .ref (w.1 161)), (5, .ref (w.1 162)), (6, .int x6_32), (8, .int r56), (12, .int z0_184)]) dL_law_745 9 rfl (by rfl) (by decide) rfl ?_
    refine jr_goto X.c 733 dL_law_748 (by decide) ?_
    cases h
    refine jr_sub [1, 2, 3, 4, 5, 6, 7, 8, 9, 0] rfl ?_
    exact kl (x14_733 + (1 : Int32)) V744 rfl
def f_L_law_l539 (nL : Nat) (xs : Nat → Int32) (x6_32 : Int32) (r56 : Int32) (z0_124 : Int32) (z0_162 : Int32) (z0_184 : Int32) (z0_531 : Int32) (x15_539 : Int32) (x16_539 : Int32) (V_l32 : cr_Hp) : Option ((Int32 × Int32) ⊕ Int32) :=
  cr_gd (cr_ix (1 : Int32) 8) (if (V_l32 159 (1 : Int32).toNatClampNeg) ≤ x16_539 then (some (.inr x15_539)) else (cr_bd (f_L_in 161 x16_539 z0_124 z0_162 V_l32) (fun (r557 : Int32) => if r557 = 0 then (some (.inl ((x15_539 + (0 : Int32)), (x16_539 + (1 : Int32))))) else (some (.inl ((x15_539 + (1 : Int32)), (x16_539 + (1 : Int32))))))))
set_option maxRecDepth 100000 in
set_option maxHeartbeats 4000000 in
theorem t_L_law_l539 {p : Program} {l : Launch} {e : Env} {s : State} {m : MethodId} {args : Array Value} {below : List Frame} {meth : Method} {c : Code} {w : cr_Wd} {Q : State → Prop} (X : cr_LX w p s m args meth c) (x6_32 : Int32) (r56 : Int32) (z0_124 : Int32) (z0_162 : Int32) (z0_184 : Int32) (z0_531 : Int32) (x15_539 : Int32) (x16_539 : Int32) (V_l32 : cr_Hp)  (x : (Int32 × Int32) ⊕ Int32) (h : f_L_law_l539 (cr_zL w) (cr_zx w) x6_32 r56 z0_124 z0_162 z0_184 z0_531 x15_539 x16_539 V_l32 = some x) (kl : ∀ (x15_539 : Int32) (x16_539 : Int32), x = .inl (x15_539, x16_539) → cr_J w 19 p l e room_1 s m args below meth c (cr_ce V_l32) (cr_sl V_l32) Q V_l32 539 [(0, .ref (cr_zb w)), (1, .ref (w.1 152)), (2, .ref (w.1 159)), (3, .ref (w.1 160)), (4, .ref (w.1 161)), (5, .ref (w.1 162)), (6, .int x6_32), (8, .int r56), (10, .int z0_124), (11, .int z0_162), (12, .int z0_184), (14, .int z0_531), (15, .int x15_539), (16, .int x16_539)] []) (kr577 : ∀ (u15_539_577 : Int32), x = .inr u15_539_577 → cr_J w 19 p l e room_1 s m args below meth c (cr_ce V_l32) (cr_sl V_l32) Q V_l32 577 [(0, .ref (cr_zb w)), (1, .ref (w.1 152)), (2, .ref (w.1 159)), (3, .ref (w.1 160)), (4, .ref (w.1 161)), (5, .ref (w.1 162)), (6, .int x6_32), (8, .int r56), (10, .int z0_124), (11, .int z0_162), (12, .int z0_184), (14, .int z0_531), (15, .int u15_539_577)] []) : cr_J w 19 p l e room_1 s m args below meth c (cr_ce V_l32) (cr_sl V_l32) Q V_l32 539 [(0, .ref (cr_zb w)), (1, .ref (w.1 152)), (2, .ref (w.1 159)), (3, .ref (w.1 160)), (4, .ref (w.1 161)), (5, .ref (w.1 162)), (6, .int x6_32), (8, .int r56), (10, .int z0_124), (11, .int z0_162), (12, .int z0_184), (14, .int z0_531), (15, .int x15_539), (16, .int x16_539)] [] := by
  unfold f_L_law_l539 at h
  refine jr_iload X.c dL_law_539 13 rfl ?_
  refine jr_aload_n X.c dL_law_541 rfl 2 rfl ?_
  refine jr_iconst X.c (v := (1 : Int32)) dL_law_542 (by decide) ?_
  obtain ⟨hi543, h⟩ := cr_gd_s h
  refine jr_iald X.c (cr_l_iv X.k0) ((cr_row_iv X.k0) _) hi543 dL_law_543 ?_
  refine jr_icmp_ge X.c 577 dL_law_544 (by decide) (fun q544 => ?_) (fun q544 => ?_)
  · replace h := cr_if_t q544 h
    cases h
    refine jr_sub [0, 1, 2, 3, 4, 5, 6, 7, 8, 9, 10, 11, 12] rfl ?_
    exact kr577 x15_539 rfl
  · replace h := cr_if_f q544 h
    refine jr_iload X.c dL_law_547 12 rfl ?_
    refine jr_iload X.c dL_law_549 13 rfl ?_
    refine jr_iload X.c dL_law_551 8 rfl ?_
    refine jr_iload X.c dL_law_553 9 rfl ?_
    refine jr_aload X.c dL_law_555 4 rfl ?_
    obtain ⟨r557, hr557, h⟩ := cr_bd_s h
    refine jc_Si X.c (As := [.int x16_539, .int z0_124, .int z0_162, .ref (w.1 161)]) (V1 := V_l32) 4 (m_L_in l w V_l32 161 x16_539 z0_124 z0_162 X.k2 r557 hr557) ⟨rfl, rfl⟩ ml_L_10 st_L_in in_L cd_L_in hd_L_in ⟨Nat.le_of_ble_eq_true rfl, Nat.le_of_ble_eq_true rfl⟩ (cr_ce_le _) rfl (Nat.le_of_ble_eq_true rfl) rfl dL_law_557 ?_
    refine jr_if_eq X.c 567 dL_law_560 (by decide) (fun q560 => ?_) (fun q560 => ?_)
    · replace h := cr_if_t q560 h
      refine jr_iconst X.c (v := (0 : Int32)) dL_law_567 (by decide) ?_
      refine jr_iadd X.c dL_law_568 ?_
      refine jr_istore X.c (lv2 := [(15, .int (x15_539 + (0 : Int32))), (0, .ref (cr_zb w)), (1, .ref (w.1 152)), (2, .ref (w.1 159)), (3, .ref (w.1 160)), (4, .ref (w.1 161)), (5, .ref (w.1 162)), (6, .int x6_32), (8, .int r56), (10, .int z0_124), (11, .int z0_162), (12, .int z0_184), (14, .int z0_531), (16, .int x16_539)]) dL_law_569 (by decide) rfl ?_
      refine jr_iinc X.c (v := (x16_539 + (1 : Int32))) (lv2 := [(16, .int (x16_539 + (1 : Int32))), (15, .int (x15_539 + (0 : Int32))), (0, .ref (cr_zb w)), (1, .ref (w.1 152)), (2, .ref (w.1 159)), (3, .ref (w.1 160)), (4, .ref (w.1 161)), (5, .ref (w.1 162)), (6, .int x6_32), (8, .int r56), (10, .int z0_124), (11, .int z0_162), (12, .int z0_184), (14, .int z0_531)]) dL_law_571 13 rfl (by rfl) (by decide) rfl ?_
      refine jr_goto X.c 539 dL_law_574 (by decide) ?_
      cases h
      refine jr_sub [2, 3, 4, 5, 6, 7, 8, 9, 10, 11, 12, 13, 1, 0] rfl ?_
      exact kl (x15_539 + (0 : Int32)) (x16_539 + (1 : Int32)) rfl
    · replace h := cr_if_f q560 h
      refine jr_iconst X.c (v := (1 : Int32)) dL_law_563 (by decide) ?_
      refine jr_goto X.c 568 dL_law_564 (by decide) ?_
      refine jr_iadd X.c dL_law_568 ?_
      refine jr_istore X.c (lv2 := [(15, .int (x15_539 + (1 : Int32))), (0, .ref (cr_zb w)), (1, .ref (w.1 152)), (2, .ref (w.1 159)), (3, .ref (w.1 160)), (4, .ref (w.1 161)), (5, .ref (w.1 162)), (6, .int x6_32), (8, .int r56), (10, .int z0_124), (11, .int z0_162), (12, .int z0_184), (14, .int z0_531), (16, .int x16_539)]) dL_law_569 (by decide) rfl ?_
      refine jr_iinc X.c (v := (x16_539 + (1 : Int32))) (lv2 := [(16, .int (x16_539 + (1 : Int32))), (15, .int (x15_539 + (1 : Int32))), (0, .ref (cr_zb w)), (1, .ref (w.1 152)), (2, .ref (w.1 159)), (3, .ref (w.1 160)), (4, .ref (w.1 161)), (5, .ref (w.1 162)), (6, .int x6_32), (8, .int r56), (10, .int z0_124), (11, .int z0_162), (12, .int z0_184), (14, .int z0_531)]) dL_law_571 13 rfl (by rfl) (by decide) rfl ?_
      refine jr_goto X.c 539 dL_law_574 (by decide) ?_
      cases h
      refine jr_sub [2, 3, 4, 5, 6, 7, 8, 9, 10, 11, 12, 13, 1, 0] rfl ?_
      exact kl (x15_539 + (1 : Int32)) (x16_539 + (1 : Int32)) rfl
def f_L_law_b664 (nL : Nat) (xs : Nat → Int32) (x6_32 : Int32) (r56 : Int32) (z0_184 : Int32) (z0_664 : Int32) (V638 : cr_Hp) : Option ((Int32 × cr_Hp) ⊕ cr_Hp) :=
  cr_gd (cr_ix (((5 : Int32) * z0_184) + (1 : Int32)) 60) (cr_lt (cr_pt V638 160 (((5 : Int32) * z0_184) + (1 : Int32)).toNatClampNeg z0_664) (fun (V664 : cr_Hp) => f_L_law_b1018 nL xs x6_32 r56 z0_184 V664))
set_option maxRecDepth 100000 in
set_option maxHeartbeats 4000000 in
theorem t_L_law_b664 {p : Program} {l : Launch} {e : Env} {s : State} {m : MethodId} {args : Array Value} {below : List Frame} {meth : Method} {c : Code} {w : cr_Wd} {Q : State → Prop} (X : cr_LX w p s m args meth c) (x6_32 : Int32) (r56 : Int32) (z0_184 : Int32) (z0_664 : Int32) (V638 : cr_Hp)  (x : (Int32 × cr_Hp) ⊕ cr_Hp) (h : f_L_law_b664 (cr_zL w) (cr_zx w) x6_32 r56 z0_184 z0_664 V638 = some x) (kl : ∀ (x6_32 : Int32) (V_l32 : cr_Hp), x = .inl (x6_32, V_l32) → cr_J w 19 p l e room_1 s m args below meth c (cr_ce V_l32) (cr_sl V_l32) Q V_l32 32 [(0, .ref (cr_zb w)), (1, .ref (w.1 152)), (2, .ref (w.1 159)), (3, .ref (w.1 160)), (4, .ref (w.1 161)), (5, .ref (w.1 162)), (6, .int x6_32)] []) (kr1175 : ∀ (V_e32_1175 : cr_Hp), x = .inr V_e32_1175 → cr_J w 19 p l e room_1 s m args below meth c (cr_ce V_e32_1175) (cr_sl V_e32_1175) Q V_e32_1175 1175 [] []) : cr_J w 19 p l e room_1 s m args below meth c (cr_ce V638) (cr_sl V638) Q V638 664 [(0, .ref (cr_zb w)), (1, .ref (w.1 152)), (2, .ref (w.1 159)), (3, .ref (w.1 160)), (4, .ref (w.1 161)), (5, .ref (w.1 162)), (6, .int x6_32), (8, .int r56), (12, .int z0_184)] [.int z0_664, .int (((5 : Int32) * z0_184) + (1 : Int32)), .ref (w.1 160)] := by
  unfold f_L_law_b664 at h
  obtain ⟨hi664, h⟩ := cr_gd_s h
  obtain ⟨V664, eV664, h⟩ := cr_lt_s h
  refine jr_iast X.c (cr_l_iv X.k1) (cr_row_iv X.k1) hi664 dL_law_664 eV664 ?_
  refine jr_cev (by rw [eV664]; exact congrFun (cr_pt_ne (by decide)) 0) ?_
  refine jr_goto X.c 1018 dL_law_665 (by decide) ?_
  refine jr_sub [0, 1, 2, 3, 4, 5, 6, 7, 8] rfl ?_
  exact t_L_law_b1018 X x6_32 r56 z0_184 V664  x h kl kr1175
def f_L_law_b638 (nL : Nat) (xs : Nat → Int32) (x6_32 : Int32) (r56 : Int32) (z0_162 : Int32) (z0_184 : Int32) (z0_531 : Int32) (z0_638 : Int32) (V584 : cr_Hp) : Option ((Int32 × cr_Hp) ⊕ cr_Hp) :=
  cr_gd (cr_ix ((5 : Int32) * z0_184) 60) (cr_lt (cr_pt V584 160 ((5 : Int32) * z0_184).toNatClampNeg z0_638) (fun (V638 : cr_Hp) => if z0_531 = 0 then (cr_gd (cr_ix (((5 : Int32) * z0_184) + (1 : Int32)) 60) (f_L_law_b664 nL xs x6_32 r56 z0_184 (V638 160 (((5 : Int32) * z0_184) + (1 : Int32)).toNatClampNeg) V638)) else (f_L_law_b664 nL xs x6_32 r56 z0_184 z0_162 V638)))
set_option maxRecDepth 100000 in
set_option maxHeartbeats 4000000 in
theorem t_L_law_b638 {p : Program} {l : Launch} {e : Env} {s : State} {m : MethodId} {args : Array Value} {below : List Frame} {meth : Method} {c : Code} {w : cr_Wd} {Q : State → Prop} (X : cr_LX w p s m args meth c) (x6_32 : Int32) (r56 : Int32) (z0_162 : Int32) (z0_184 : Int32) (z0_531 : Int32) (z0_638 : Int32) (V584 : cr_Hp)  (x : (Int32 × cr_Hp) ⊕ cr_Hp) (h : f_L_law_b638 (cr_zL w) (cr_zx w) x6_32 r56 z0_162 z0_184 z0_531 z0_638 V584 = some x) (kl : ∀ (x6_32 : Int32) (V_l32 : cr_Hp), x = .inl (x6_32, V_l32) → cr_J w 19 p l e room_1 s m args below meth c (cr_ce V_l32) (cr_sl V_l32) Q V_l32 32 [(0, .ref (cr_zb w)), (1, .ref (w.1 152)), (2, .ref (w.1 159)), (3, .ref (w.1 160)), (4, .ref (w.1 161)), (5, .ref (w.1 162)), (6, .int x6_32)] []) (kr1175 : ∀ (V_e32_1175 : cr_Hp), x = .inr V_e32_1175 → cr_J w 19 p l e room_1 s m args below meth c (cr_ce V_e32_1175) (cr_sl V_e32_1175) Q V_e32_1175 1175 [] []) : cr_J w 19 p l e room_1 s m args below meth c (cr_ce V584) (cr_sl V584) Q V584 638 [(0, .ref (cr_zb w)), (1, .ref (w.1 152)), (2, .ref (w.1 159)), (3, .ref (w.1 160)), (4, .ref (w.1 161)), (5, .ref (w.1 162)), (6, .int x6_32), (8, .int r56), (11, .int z0_162), (12, .int z0_184), (14, .int z0_531)] [.int z0_638, .int ((5 : Int32) * z0_184), .ref (w.1 160)] := by
  unfold f_L_law_b638 at h
  obtain ⟨hi638, h⟩ := cr_gd_s h
  obtain ⟨V638, eV638, h⟩ := cr_lt_s h
  refine jr_iast X.c (cr_l_iv X.k1) (cr_row_iv X.k1) hi638 dL_law_638 eV638 ?_
  refine jr_cev (by rw [eV638]; exact congrFun (cr_pt_ne (by decide)) 0) ?_
  refine jr_aload_n X.c dL_law_639 rfl 3 rfl ?_
  refine jr_iconst X.c (v := (5 : Int32)) dL_law_640 (by decide) ?_
  refine jr_iload X.c dL_law_641 9 rfl ?_
  refine jr_imul X.c dL_law_643 ?_
  refine jr_iconst X.c (v := (1 : Int32)) dL_law_644 (by decide) ?_
  refine jr_iadd X.c dL_law_645 ?_
  refine jr_iload X.c dL_law_646 10 rfl ?_
  refine jr_if_eq X.c 656 dL_law_648 (by decide) (fun q648 => ?_) (fun q648 => ?_)
  · replace h := cr_if_t q648 h
    refine jr_aload_n X.c dL_law_656 rfl 3 rfl ?_
    refine jr_iconst X.c (v := (5 : Int32)) dL_law_657 (by decide) ?_
    refine jr_iload X.c dL_law_658 9 rfl ?_
    refine jr_imul X.c dL_law_660 ?_
    refine jr_iconst X.c (v := (1 : Int32)) dL_law_661 (by decide) ?_
    refine jr_iadd X.c dL_law_662 ?_
    obtain ⟨hi663, h⟩ := cr_gd_s h
    refine jr_iald X.c (cr_l_iv X.k1) ((cr_row_iv X.k1) _) hi663 dL_law_663 ?_
    refine jr_sub [0, 1, 2, 3, 4, 5, 6, 7, 9] rfl ?_
    exact t_L_law_b664 X x6_32 r56 z0_184 (V638 160 (((5 : Int32) * z0_184) + (1 : Int32)).toNatClampNeg) V638  x h kl kr1175
  · replace h := cr_if_f q648 h
    refine jr_iload X.c dL_law_651 8 rfl ?_
    refine jr_goto X.c 664 dL_law_653 (by decide) ?_
    refine jr_sub [0, 1, 2, 3, 4, 5, 6, 7, 9] rfl ?_
    exact t_L_law_b664 X x6_32 r56 z0_184 z0_162 V638  x h kl kr1175
def f_L_law_b612 (nL : Nat) (xs : Nat → Int32) (x6_32 : Int32) (r56 : Int32) (z0_124 : Int32) (z0_162 : Int32) (z0_184 : Int32) (z0_531 : Int32) (r584 : Int32) (z0_612 : Int32) (V584 : cr_Hp) : Option ((Int32 × cr_Hp) ⊕ cr_Hp) :=
  if r584 = z0_612 then (if z0_531 = 0 then (cr_gd (cr_ix ((5 : Int32) * z0_184) 60) (f_L_law_b638 nL xs x6_32 r56 z0_162 z0_184 z0_531 (V584 160 ((5 : Int32) * z0_184).toNatClampNeg) V584)) else (f_L_law_b638 nL xs x6_32 r56 z0_162 z0_184 z0_531 z0_124 V584)) else (none)
set_option maxRecDepth 100000 in
set_option maxHeartbeats 4000000 in
theorem t_L_law_b612 {p : Program} {l : Launch} {e : Env} {s : State} {m : MethodId} {args : Array Value} {below : List Frame} {meth : Method} {c : Code} {w : cr_Wd} {Q : State → Prop} (X : cr_LX w p s m args meth c) (x6_32 : Int32) (r56 : Int32) (z0_124 : Int32) (z0_162 : Int32) (z0_184 : Int32) (z0_531 : Int32) (r584 : Int32) (z0_612 : Int32) (V584 : cr_Hp)  (x : (Int32 × cr_Hp) ⊕ cr_Hp) (h : f_L_law_b612 (cr_zL w) (cr_zx w) x6_32 r56 z0_124 z0_162 z0_184 z0_531 r584 z0_612 V584 = some x) (kl : ∀ (x6_32 : Int32) (V_l32 : cr_Hp), x = .inl (x6_32, V_l32) → cr_J w 19 p l e room_1 s m args below meth c (cr_ce V_l32) (cr_sl V_l32) Q V_l32 32 [(0, .ref (cr_zb w)), (1, .ref (w.1 152)), (2, .ref (w.1 159)), (3, .ref (w.1 160)), (4, .ref (w.1 161)), (5, .ref (w.1 162)), (6, .int x6_32)] []) (kr1175 : ∀ (V_e32_1175 : cr_Hp), x = .inr V_e32_1175 → cr_J w 19 p l e room_1 s m args below meth c (cr_ce V_e32_1175) (cr_sl V_e32_1175) Q V_e32_1175 1175 [] []) : cr_J w 19 p l e room_1 s m args below meth c (cr_ce V584) (cr_sl V584) Q V584 612 [(0, .ref (cr_zb w)), (1, .ref (w.1 152)), (2, .ref (w.1 159)), (3, .ref (w.1 160)), (4, .ref (w.1 161)), (5, .ref (w.1 162)), (6, .int x6_32), (8, .int r56), (10, .int z0_124), (11, .int z0_162), (12, .int z0_184), (14, .int z0_531)] [.int z0_612, .int r584] := by
  unfold f_L_law_b612 at h
  refine jr_icmp_eq X.c 617 dL_law_612 (by decide) (fun q612 => ?_) (fun q612 => ?_)
  · replace h := cr_if_t q612 h
    refine jr_aload_n X.c dL_law_617 rfl 3 rfl ?_
    refine jr_iconst X.c (v := (5 : Int32)) dL_law_618 (by decide) ?_
    refine jr_iload X.c dL_law_619 10 rfl ?_
    refine jr_imul X.c dL_law_621 ?_
    refine jr_iload X.c dL_law_622 11 rfl ?_
    refine jr_if_eq X.c 632 dL_law_624 (by decide) (fun q624 => ?_) (fun q624 => ?_)
    · replace h := cr_if_t q624 h
      refine jr_aload_n X.c dL_law_632 rfl 3 rfl ?_
      refine jr_iconst X.c (v := (5 : Int32)) dL_law_633 (by decide) ?_
      refine jr_iload X.c dL_law_634 10 rfl ?_
      refine jr_imul X.c dL_law_636 ?_
      obtain ⟨hi637, h⟩ := cr_gd_s h
      refine jr_iald X.c (cr_l_iv X.k1) ((cr_row_iv X.k1) _) hi637 dL_law_637 ?_
      refine jr_sub [0, 1, 2, 3, 4, 5, 6, 7, 9, 10, 11] rfl ?_
      exact t_L_law_b638 X x6_32 r56 z0_162 z0_184 z0_531 (V584 160 ((5 : Int32) * z0_184).toNatClampNeg) V584  x h kl kr1175
    · replace h := cr_if_f q624 h
      refine jr_iload X.c dL_law_627 8 rfl ?_
      refine jr_goto X.c 638 dL_law_629 (by decide) ?_
      refine jr_sub [0, 1, 2, 3, 4, 5, 6, 7, 9, 10, 11] rfl ?_
      exact t_L_law_b638 X x6_32 r56 z0_162 z0_184 z0_531 z0_124 V584  x h kl kr1175
  · replace h := cr_if_f q612 h
    cases h
def f_L_law_b531 (nL : Nat) (xs : Nat → Int32) (x6_32 : Int32) (r56 : Int32) (z0_124 : Int32) (z0_162 : Int32) (z0_184 : Int32) (z0_531 : Int32) (V_l32 : cr_Hp) : Option ((Int32 × cr_Hp) ⊕ cr_Hp) :=
  cr_bd (cr_it (fun (q : Int32 × Int32) => f_L_law_l539 nL xs x6_32 r56 z0_124 z0_162 z0_184 z0_531 q.1 q.2 V_l32) cr_FU ((0 : Int32), (0 : Int32))) (fun (u15_539_577 : Int32) => cr_b2 (f_X7_move z0_184 z0_124 z0_162 V_l32) (fun (r584 : Int32) (V584 : cr_Hp) => cr_gd (V584 999 0 = V_l32 999 0) (cr_gd (cr_ix (0 : Int32) 8) (if (V584 159 (0 : Int32).toNatClampNeg) = 0 then (f_L_law_b612 nL xs x6_32 r56 z0_124 z0_162 z0_184 z0_531 r584 (-1001 : Int32) V584) else (if z0_531 = 0 then (f_L_law_b612 nL xs x6_32 r56 z0_124 z0_162 z0_184 z0_531 r584 (-1003 : Int32) V584) else (f_L_law_b612 nL xs x6_32 r56 z0_124 z0_162 z0_184 z0_531 r584 u15_539_577 V584))))))
set_option maxRecDepth 100000 in
set_option maxHeartbeats 4000000 in
theorem t_L_law_b531 {p : Program} {l : Launch} {e : Env} {s : State} {m : MethodId} {args : Array Value} {below : List Frame} {meth : Method} {c : Code} {w : cr_Wd} {Q : State → Prop} (X : cr_LX w p s m args meth c) (x6_32 : Int32) (r56 : Int32) (z0_124 : Int32) (z0_162 : Int32) (z0_184 : Int32) (z0_531 : Int32) (V_l32 : cr_Hp)  (x : (Int32 × cr_Hp) ⊕ cr_Hp) (h : f_L_law_b531 (cr_zL w) (cr_zx w) x6_32 r56 z0_124 z0_162 z0_184 z0_531 V_l32 = some x) (kl : ∀ (x6_32 : Int32) (V_l32 : cr_Hp), x = .inl (x6_32, V_l32) → cr_J w 19 p l e room_1 s m args below meth c (cr_ce V_l32) (cr_sl V_l32) Q V_l32 32 [(0, .ref (cr_zb w)), (1, .ref (w.1 152)), (2, .ref (w.1 159)), (3, .ref (w.1 160)), (4, .ref (w.1 161)), (5, .ref (w.1 162)), (6, .int x6_32)] []) (kr1175 : ∀ (V_e32_1175 : cr_Hp), x = .inr V_e32_1175 → cr_J w 19 p l e room_1 s m args below meth c (cr_ce V_e32_1175) (cr_sl V_e32_1175) Q V_e32_1175 1175 [] []) : cr_J w 19 p l e room_1 s m args below meth c (cr_ce V_l32) (cr_sl V_l32) Q V_l32 531 [(0, .ref (cr_zb w)), (1, .ref (w.1 152)), (2, .ref (w.1 159)), (3, .ref (w.1 160)), (4, .ref (w.1 161)), (5, .ref (w.1 162)), (6, .int x6_32), (8, .int r56), (10, .int z0_124), (11, .int z0_162), (12, .int z0_184)] [.int z0_531] := by
  unfold f_L_law_b531 at h
  refine jr_istore X.c (lv2 := [(14, .int z0_531), (0, .ref (cr_zb w)), (1, .ref (w.1 152)), (2, .ref (w.1 159)), (3, .ref (w.1 160)), (4, .ref (w.1 161)), (5, .ref (w.1 162)), (6, .int x6_32), (8, .int r56), (10, .int z0_124), (11, .int z0_162), (12, .int z0_184)]) dL_law_531 (by decide) rfl ?_
  refine jr_iconst X.c (v := (0 : Int32)) dL_law_533 (by decide) ?_
  refine jr_istore X.c (lv2 := [(15, .int (0 : Int32)), (14, .int z0_531), (0, .ref (cr_zb w)), (1, .ref (w.1 152)), (2, .ref (w.1 159)), (3, .ref (w.1 160)), (4, .ref (w.1 161)), (5, .ref (w.1 162)), (6, .int x6_32), (8, .int r56), (10, .int z0_124), (11, .int z0_162), (12, .int z0_184)]) dL_law_534 (by decide) rfl ?_
  refine jr_iconst X.c (v := (0 : Int32)) dL_law_536 (by decide) ?_
  refine jr_istore X.c (lv2 := [(16, .int (0 : Int32)), (15, .int (0 : Int32)), (14, .int z0_531), (0, .ref (cr_zb w)), (1, .ref (w.1 152)), (2, .ref (w.1 159)), (3, .ref (w.1 160)), (4, .ref (w.1 161)), (5, .ref (w.1 162)), (6, .int x6_32), (8, .int r56), (10, .int z0_124), (11, .int z0_162), (12, .int z0_184)]) dL_law_537 (by decide) rfl ?_
  obtain ⟨e539, he539, h⟩ := cr_bd_s h
  have kx577 : ∀ (u15_539_577 : Int32), e539 = u15_539_577 → cr_J w 19 p l e room_1 s m args below meth c (cr_ce V_l32) (cr_sl V_l32) Q V_l32 577 [(0, .ref (cr_zb w)), (1, .ref (w.1 152)), (2, .ref (w.1 159)), (3, .ref (w.1 160)), (4, .ref (w.1 161)), (5, .ref (w.1 162)), (6, .int x6_32), (8, .int r56), (10, .int z0_124), (11, .int z0_162), (12, .int z0_184), (14, .int z0_531), (15, .int u15_539_577)] [] := by
    intro u15_539_577 qx
    rw [qx] at h
    refine jr_aload_n X.c dL_law_577 rfl 1 rfl ?_
    refine jr_iload X.c dL_law_578 10 rfl ?_
    refine jr_iload X.c dL_law_580 8 rfl ?_
    refine jr_iload X.c dL_law_582 9 rfl ?_
    obtain ⟨r584, V584, hr584, h⟩ := cr_b2_s h
    obtain ⟨hg584, h⟩ := cr_gd_s h
    refine jc_Vi X.c (As := [.int z0_184, .int z0_124, .int z0_162]) (V1 := V584) (C := RX7) (T := TX7) (N := 5) (ci := 7) 3 (m_X7_move l w V_l32 z0_184 z0_124 z0_162  (r584, V584) hr584) ⟨rfl, rfl⟩ ml_L_74 im_X7_move sl_X7_move in_X7 cd_X7_move hd_X7_move ⟨Nat.le_of_ble_eq_true rfl, Nat.le_of_ble_eq_true rfl⟩ (cr_ce_le _) rfl (Nat.le_of_ble_eq_true rfl) (Or.inl (by decide)) ((cr_row_152 w) _) rfl rfl dL_law_584 ?_
    refine jr_cev hg584 ?_
    refine jr_aload_n X.c dL_law_587 rfl 2 rfl ?_
    refine jr_iconst X.c (v := (0 : Int32)) dL_law_588 (by decide) ?_
    obtain ⟨hi589, h⟩ := cr_gd_s h
    refine jr_iald X.c (cr_l_iv X.k0) ((cr_row_iv X.k0) _) hi589 dL_law_589 ?_
    refine jr_if_ne X.c 599 dL_law_590 (by decide) (fun q590 => ?_) (fun q590 => ?_)
    · replace h := cr_if_f q590 h
      refine jr_iload X.c dL_law_599 11 rfl ?_
      refine jr_if_eq X.c 609 dL_law_601 (by decide) (fun q601 => ?_) (fun q601 => ?_)
      · replace h := cr_if_t q601 h
        refine jr_sipush X.c (v := (-1003 : Int32)) dL_law_609 (by decide) ?_
        refine jr_sub [0, 1, 2, 3, 4, 5, 6, 7, 8, 9, 10, 11] rfl ?_
        exact t_L_law_b612 X x6_32 r56 z0_124 z0_162 z0_184 z0_531 r584 (-1003 : Int32) V584  x h kl kr1175
      · replace h := cr_if_f q601 h
        refine jr_iload X.c dL_law_604 12 rfl ?_
        refine jr_goto X.c 612 dL_law_606 (by decide) ?_
        refine jr_sub [0, 1, 2, 3, 4, 5, 6, 7, 8, 9, 10, 11] rfl ?_
        exact t_L_law_b612 X x6_32 r56 z0_124 z0_162 z0_184 z0_531 r584 u15_539_577 V584  x h kl kr1175
    · replace h := cr_if_t q590 h
      refine jr_sipush X.c (v := (-1001 : Int32)) dL_law_593 (by decide) ?_
      refine jr_goto X.c 612 dL_law_596 (by decide) ?_
      refine jr_sub [0, 1, 2, 3, 4, 5, 6, 7, 8, 9, 10, 11] rfl ?_
      exact t_L_law_b612 X x6_32 r56 z0_124 z0_162 z0_184 z0_531 r584 (-1001 : Int32) V584  x h kl kr1175
  refine jr_sub [3, 4, 5, 6, 7, 8, 9, 10, 11, 12, 13, 2, 1, 0] rfl ?_
  refine cr_it_W (f := (fun (q : Int32 × Int32) => f_L_law_l539 (cr_zL w) (cr_zx w) x6_32 r56 z0_124 z0_162 z0_184 z0_531 q.1 q.2 V_l32)) (P := fun (q : Int32 × Int32) => cr_J w 19 p l e room_1 s m args below meth c (cr_ce V_l32) (cr_sl V_l32) Q V_l32 539 [(0, .ref (cr_zb w)), (1, .ref (w.1 152)), (2, .ref (w.1 159)), (3, .ref (w.1 160)), (4, .ref (w.1 161)), (5, .ref (w.1 162)), (6, .int x6_32), (8, .int r56), (10, .int z0_124), (11, .int z0_162), (12, .int z0_184), (14, .int z0_531), (15, .int q.1), (16, .int q.2)] []) (K := fun z => z = e539) (fun q x hx kl kr => ?_) cr_FU ((0 : Int32), (0 : Int32)) e539 he539 rfl
  obtain ⟨x15_539, x16_539⟩ := q
  exact t_L_law_l539 X x6_32 r56 z0_124 z0_162 z0_184 z0_531 x15_539 x16_539 V_l32  x hx (fun x15_539 x16_539 ez => kl _ ez) (fun u15_539_577 ez => kx577 u15_539_577 ((kr _ ez).symm))
def f_L_law_b530 (nL : Nat) (xs : Nat → Int32) (x6_32 : Int32) (r56 : Int32) (z0_124 : Int32) (z0_162 : Int32) (z0_184 : Int32) (V_l32 : cr_Hp) : Option ((Int32 × cr_Hp) ⊕ cr_Hp) :=
  f_L_law_b531 nL xs x6_32 r56 z0_124 z0_162 z0_184 (0 : Int32) V_l32
set_option maxRecDepth 100000 in
set_option maxHeartbeats 4000000 in
theorem t_L_law_b530 {p : Program} {l : Launch} {e : Env} {s : State} {m : MethodId} {args : Array Value} {below : List Frame} {meth : Method} {c : Code} {w : cr_Wd} {Q : State → Prop} (X : cr_LX w p s m args meth c) (x6_32 : Int32) (r56 : Int32) (z0_124 : Int32) (z0_162 : Int32) (z0_184 : Int32) (V_l32 : cr_Hp)  (x : (Int32 × cr_Hp) ⊕ cr_Hp) (h : f_L_law_b530 (cr_zL w) (cr_zx w) x6_32 r56 z0_124 z0_162 z0_184 V_l32 = some x) (kl : ∀ (x6_32 : Int32) (V_l32 : cr_Hp), x = .inl (x6_32, V_l32) → cr_J w 19 p l e room_1 s m args below meth c (cr_ce V_l32) (cr_sl V_l32) Q V_l32 32 [(0, .ref (cr_zb w)), (1, .ref (w.1 152)), (2, .ref (w.1 159)), (3, .ref (w.1 160)), (4, .ref (w.1 161)), (5, .ref (w.1 162)), (6, .int x6_32)] []) (kr1175 : ∀ (V_e32_1175 : cr_Hp), x = .inr V_e32_1175 → cr_J w 19 p l e room_1 s m args below meth c (cr_ce V_e32_1175) (cr_sl V_e32_1175) Q V_e32_1175 1175 [] []) : cr_J w 19 p l e room_1 s m args below meth c (cr_ce V_l32) (cr_sl V_l32) Q V_l32 530 [(0, .ref (cr_zb w)), (1, .ref (w.1 152)), (2, .ref (w.1 159)), (3, .ref (w.1 160)), (4, .ref (w.1 161)), (5, .ref (w.1 162)), (6, .int x6_32), (8, .int r56), (10, .int z0_124), (11, .int z0_162), (12, .int z0_184)] [] := by
  unfold f_L_law_b530 at h
  refine jr_iconst X.c (v := (0 : Int32)) dL_law_530 (by decide) ?_
  refine jr_sub [0, 1, 2, 3, 4, 5, 6, 7, 8, 9, 10] rfl ?_
  exact t_L_law_b531 X x6_32 r56 z0_124 z0_162 z0_184 (0 : Int32) V_l32  x h kl kr1175
def f_L_law_b444 (nL : Nat) (xs : Nat → Int32) (x6_32 : Int32) (r56 : Int32) (z0_124 : Int32) (z0_162 : Int32) (z0_184 : Int32) (r412 : Int32) (r425 : Int32) (z0_444 : Int32) (V425 : cr_Hp) : Option ((Int32 × cr_Hp) ⊕ cr_Hp) :=
  if r425 = z0_444 then (cr_gd (cr_ix (1 : Int32) 8) (if (V425 159 (1 : Int32).toNatClampNeg) = (4 : Int32) then (some (.inl ((x6_32 + (1 : Int32)), V425))) else (cr_gd (cr_ix (1 : Int32) 8) (cr_gd (cr_ix ((3 : Int32) * (V425 159 (1 : Int32).toNatClampNeg)) 12) (cr_lt (cr_pt V425 161 ((3 : Int32) * (V425 159 (1 : Int32).toNatClampNeg)).toNatClampNeg z0_124) (fun (V468 : cr_Hp) => cr_gd (cr_ix (1 : Int32) 8) (cr_gd (cr_ix (((3 : Int32) * (V468 159 (1 : Int32).toNatClampNeg)) + (1 : Int32)) 12) (cr_lt (cr_pt V468 161 (((3 : Int32) * (V468 159 (1 : Int32).toNatClampNeg)) + (1 : Int32)).toNatClampNeg z0_162) (fun (V480 : cr_Hp) => cr_gd (cr_ix (1 : Int32) 8) (cr_gd (cr_ix (((3 : Int32) * (V480 159 (1 : Int32).toNatClampNeg)) + (2 : Int32)) 12) (cr_lt (cr_pt V480 161 (((3 : Int32) * (V480 159 (1 : Int32).toNatClampNeg)) + (2 : Int32)).toNatClampNeg ((1 : Int32) + r412)) (fun (V492 : cr_Hp) => cr_gd (cr_ix (1 : Int32) 8) (cr_gd (cr_ix (1 : Int32) 8) (cr_lt (cr_pt V492 159 (1 : Int32).toNatClampNeg ((V492 159 (1 : Int32).toNatClampNeg) + (1 : Int32))) (fun (V499 : cr_Hp) => f_L_law_b1018 nL xs x6_32 r56 z0_184 V499))))))))))))))) else (none)
set_option maxRecDepth 100000 in
set_option maxHeartbeats 4000000 in
theorem t_L_law_b444 {p : Program} {l : Launch} {e : Env} {s : State} {m : MethodId} {args : Array Value} {below : List Frame} {meth : Method} {c : Code} {w : cr_Wd} {Q : State → Prop} (X : cr_LX w p s m args meth c) (x6_32 : Int32) (r56 : Int32) (z0_124 : Int32) (z0_162 : Int32) (z0_184 : Int32) (r412 : Int32) (r425 : Int32) (z0_444 : Int32) (V425 : cr_Hp)  (x : (Int32 × cr_Hp) ⊕ cr_Hp) (h : f_L_law_b444 (cr_zL w) (cr_zx w) x6_32 r56 z0_124 z0_162 z0_184 r412 r425 z0_444 V425 = some x) (kl : ∀ (x6_32 : Int32) (V_l32 : cr_Hp), x = .inl (x6_32, V_l32) → cr_J w 19 p l e room_1 s m args below meth c (cr_ce V_l32) (cr_sl V_l32) Q V_l32 32 [(0, .ref (cr_zb w)), (1, .ref (w.1 152)), (2, .ref (w.1 159)), (3, .ref (w.1 160)), (4, .ref (w.1 161)), (5, .ref (w.1 162)), (6, .int x6_32)] []) (kr1175 : ∀ (V_e32_1175 : cr_Hp), x = .inr V_e32_1175 → cr_J w 19 p l e room_1 s m args below meth c (cr_ce V_e32_1175) (cr_sl V_e32_1175) Q V_e32_1175 1175 [] []) : cr_J w 19 p l e room_1 s m args below meth c (cr_ce V425) (cr_sl V425) Q V425 444 [(0, .ref (cr_zb w)), (1, .ref (w.1 152)), (2, .ref (w.1 159)), (3, .ref (w.1 160)), (4, .ref (w.1 161)), (5, .ref (w.1 162)), (6, .int x6_32), (8, .int r56), (10, .int z0_124), (11, .int z0_162), (12, .int z0_184), (14, .int ((1 : Int32) + r412))] [.int z0_444, .int r425] := by
  unfold f_L_law_b444 at h
  refine jr_icmp_eq X.c 449 dL_law_444 (by decide) (fun q444 => ?_) (fun q444 => ?_)
  · replace h := cr_if_t q444 h
    refine jr_aload_n X.c dL_law_449 rfl 2 rfl ?_
    refine jr_iconst X.c (v := (1 : Int32)) dL_law_450 (by decide) ?_
    obtain ⟨hi451, h⟩ := cr_gd_s h
    refine jr_iald X.c (cr_l_iv X.k0) ((cr_row_iv X.k0) _) hi451 dL_law_451 ?_
    refine jr_iconst X.c (v := (4 : Int32)) dL_law_452 (by decide) ?_
    refine jr_icmp_ne X.c 459 dL_law_453 (by decide) (fun q453 => ?_) (fun q453 => ?_)
    · replace h := cr_if_f q453 h
      refine jr_aload X.c dL_law_459 4 rfl ?_
      refine jr_iconst X.c (v := (3 : Int32)) dL_law_461 (by decide) ?_
      refine jr_aload_n X.c dL_law_462 rfl 2 rfl ?_
      refine jr_iconst X.c (v := (1 : Int32)) dL_law_463 (by decide) ?_
      obtain ⟨hi464, h⟩ := cr_gd_s h
      refine jr_iald X.c (cr_l_iv X.k0) ((cr_row_iv X.k0) _) hi464 dL_law_464 ?_
      refine jr_imul X.c dL_law_465 ?_
      refine jr_iload X.c dL_law_466 8 rfl ?_
      obtain ⟨hi468, h⟩ := cr_gd_s h
      obtain ⟨V468, eV468, h⟩ := cr_lt_s h
      refine jr_iast X.c (cr_l_iv X.k2) (cr_row_iv X.k2) hi468 dL_law_468 eV468 ?_
      refine jr_cev (by rw [eV468]; exact congrFun (cr_pt_ne (by decide)) 0) ?_
      refine jr_aload X.c dL_law_469 4 rfl ?_
      refine jr_iconst X.c (v := (3 : Int32)) dL_law_471 (by decide) ?_
      refine jr_aload_n X.c dL_law_472 rfl 2 rfl ?_
      refine jr_iconst X.c (v := (1 : Int32)) dL_law_473 (by decide) ?_
      obtain ⟨hi474, h⟩ := cr_gd_s h
      refine jr_iald X.c (cr_l_iv X.k0) ((cr_row_iv X.k0) _) hi474 dL_law_474 ?_
      refine jr_imul X.c dL_law_475 ?_
      refine jr_iconst X.c (v := (1 : Int32)) dL_law_476 (by decide) ?_
      refine jr_iadd X.c dL_law_477 ?_
      refine jr_iload X.c dL_law_478 9 rfl ?_
      obtain ⟨hi480, h⟩ := cr_gd_s h
      obtain ⟨V480, eV480, h⟩ := cr_lt_s h
      refine jr_iast X.c (cr_l_iv X.k2) (cr_row_iv X.k2) hi480 dL_law_480 eV480 ?_
      refine jr_cev (by rw [eV480]; exact congrFun (cr_pt_ne (by decide)) 0) ?_
      refine jr_aload X.c dL_law_481 4 rfl ?_
      refine jr_iconst X.c (v := (3 : Int32)) dL_law_483 (by decide) ?_
      refine jr_aload_n X.c dL_law_484 rfl 2 rfl ?_
      refine jr_iconst X.c (v := (1 : Int32)) dL_law_485 (by decide) ?_
      obtain ⟨hi486, h⟩ := cr_gd_s h
      refine jr_iald X.c (cr_l_iv X.k0) ((cr_row_iv X.k0) _) hi486 dL_law_486 ?_
      refine jr_imul X.c dL_law_487 ?_
      refine jr_iconst X.c (v := (2 : Int32)) dL_law_488 (by decide) ?_
      refine jr_iadd X.c dL_law_489 ?_
      refine jr_iload X.c dL_law_490 11 rfl ?_
      obtain ⟨hi492, h⟩ := cr_gd_s h
      obtain ⟨V492, eV492, h⟩ := cr_lt_s h
      refine jr_iast X.c (cr_l_iv X.k2) (cr_row_iv X.k2) hi492 dL_law_492 eV492 ?_
      refine jr_cev (by rw [eV492]; exact congrFun (cr_pt_ne (by decide)) 0) ?_
      refine jr_aload_n X.c dL_law_493 rfl 2 rfl ?_
      refine jr_iconst X.c (v := (1 : Int32)) dL_law_494 (by decide) ?_
      refine jr_dup2 X.c dL_law_495 rfl rfl ?_
      obtain ⟨hi496, h⟩ := cr_gd_s h
      refine jr_iald X.c (cr_l_iv X.k0) ((cr_row_iv X.k0) _) hi496 dL_law_496 ?_
      refine jr_iconst X.c (v := (1 : Int32)) dL_law_497 (by decide) ?_
      refine jr_iadd X.c dL_law_498 ?_
      obtain ⟨hi499, h⟩ := cr_gd_s h
      obtain ⟨V499, eV499, h⟩ := cr_lt_s h
      refine jr_iast X.c (cr_l_iv X.k0) (cr_row_iv X.k0) hi499 dL_law_499 eV499 ?_
      refine jr_cev (by rw [eV499]; exact congrFun (cr_pt_ne (by decide)) 0) ?_
      refine jr_goto X.c 1018 dL_law_500 (by decide) ?_
      refine jr_sub [0, 1, 2, 3, 4, 5, 6, 7, 10] rfl ?_
      exact t_L_law_b1018 X x6_32 r56 z0_184 V499  x h kl kr1175
    · replace h := cr_if_t q453 h
      refine jr_goto X.c 1169 dL_law_456 (by decide) ?_
      refine jr_iinc X.c (v := (x6_32 + (1 : Int32))) (lv2 := [(6, .int (x6_32 + (1 : Int32))), (0, .ref (cr_zb w)), (1, .ref (w.1 152)), (2, .ref (w.1 159)), (3, .ref (w.1 160)), (4, .ref (w.1 161)), (5, .ref (w.1 162)), (8, .int r56), (10, .int z0_124), (11, .int z0_162), (12, .int z0_184), (14, .int ((1 : Int32) + r412))]) dL_law_1169 6 rfl (by rfl) (by decide) rfl ?_
      refine jr_goto X.c 32 dL_law_1172 (by decide) ?_
      cases h
      refine jr_sub [1, 2, 3, 4, 5, 6, 0] rfl ?_
      exact kl (x6_32 + (1 : Int32)) V425 rfl
  · replace h := cr_if_f q444 h
    cases h
def f_L_law_b412 (nL : Nat) (xs : Nat → Int32) (x6_32 : Int32) (r56 : Int32) (z0_124 : Int32) (z0_162 : Int32) (z0_184 : Int32) (z0_412 : Int32) (V_l32 : cr_Hp) : Option ((Int32 × cr_Hp) ⊕ cr_Hp) :=
  cr_bd (f_L_low (r56 >>> ((8 : Int32) &&& 31)) z0_412) (fun (r412 : Int32) => cr_b2 (f_X7_drawRing z0_124 z0_162 ((1 : Int32) + r412) V_l32) (fun (r425 : Int32) (V425 : cr_Hp) => cr_gd (V425 999 0 = V_l32 999 0) (cr_gd (cr_ix (1 : Int32) 8) (if (V425 159 (1 : Int32).toNatClampNeg) = (4 : Int32) then (f_L_law_b444 nL xs x6_32 r56 z0_124 z0_162 z0_184 r412 r425 (-1004 : Int32) V425) else (cr_gd (cr_ix (1 : Int32) 8) (f_L_law_b444 nL xs x6_32 r56 z0_124 z0_162 z0_184 r412 r425 (V425 159 (1 : Int32).toNatClampNeg) V425))))))
set_option maxRecDepth 100000 in
set_option maxHeartbeats 4000000 in
theorem t_L_law_b412 {p : Program} {l : Launch} {e : Env} {s : State} {m : MethodId} {args : Array Value} {below : List Frame} {meth : Method} {c : Code} {w : cr_Wd} {Q : State → Prop} (X : cr_LX w p s m args meth c) (x6_32 : Int32) (r56 : Int32) (z0_124 : Int32) (z0_162 : Int32) (z0_184 : Int32) (z0_412 : Int32) (V_l32 : cr_Hp)  (x : (Int32 × cr_Hp) ⊕ cr_Hp) (h : f_L_law_b412 (cr_zL w) (cr_zx w) x6_32 r56 z0_124 z0_162 z0_184 z0_412 V_l32 = some x) (kl : ∀ (x6_32 : Int32) (V_l32 : cr_Hp), x = .inl (x6_32, V_l32) → cr_J w 19 p l e room_1 s m args below meth c (cr_ce V_l32) (cr_sl V_l32) Q V_l32 32 [(0, .ref (cr_zb w)), (1, .ref (w.1 152)), (2, .ref (w.1 159)), (3, .ref (w.1 160)), (4, .ref (w.1 161)), (5, .ref (w.1 162)), (6, .int x6_32)] []) (kr1175 : ∀ (V_e32_1175 : cr_Hp), x = .inr V_e32_1175 → cr_J w 19 p l e room_1 s m args below meth c (cr_ce V_e32_1175) (cr_sl V_e32_1175) Q V_e32_1175 1175 [] []) : cr_J w 19 p l e room_1 s m args below meth c (cr_ce V_l32) (cr_sl V_l32) Q V_l32 412 [(0, .ref (cr_zb w)), (1, .ref (w.1 152)), (2, .ref (w.1 159)), (3, .ref (w.1 160)), (4, .ref (w.1 161)), (5, .ref (w.1 162)), (6, .int x6_32), (8, .int r56), (10, .int z0_124), (11, .int z0_162), (12, .int z0_184)] [.int z0_412, .int (r56 >>> ((8 : Int32) &&& 31)), .int (1 : Int32)] := by
  unfold f_L_law_b412 at h
  obtain ⟨r412, hr412, h⟩ := cr_bd_s h
  refine jc_Si X.c (As := [.int (r56 >>> ((8 : Int32) &&& 31)), .int z0_412]) (V1 := V_l32) 2 (m_L_low l w V_l32 (r56 >>> ((8 : Int32) &&& 31)) z0_412  r412 hr412) ⟨rfl, rfl⟩ ml_L_58 st_L_low in_L cd_L_low hd_L_low ⟨Nat.le_of_ble_eq_true rfl, Nat.le_of_ble_eq_true rfl⟩ (cr_ce_le _) rfl (Nat.le_of_ble_eq_true rfl) rfl dL_law_412 ?_
  refine jr_iadd X.c dL_law_415 ?_
  refine jr_istore X.c (lv2 := [(14, .int ((1 : Int32) + r412)), (0, .ref (cr_zb w)), (1, .ref (w.1 152)), (2, .ref (w.1 159)), (3, .ref (w.1 160)), (4, .ref (w.1 161)), (5, .ref (w.1 162)), (6, .int x6_32), (8, .int r56), (10, .int z0_124), (11, .int z0_162), (12, .int z0_184)]) dL_law_416 (by decide) rfl ?_
  refine jr_aload_n X.c dL_law_418 rfl 2 rfl ?_
  refine jr_iload X.c dL_law_419 9 rfl ?_
  refine jr_iload X.c dL_law_421 10 rfl ?_
  refine jr_iload X.c dL_law_423 0 rfl ?_
  obtain ⟨r425, V425, hr425, h⟩ := cr_b2_s h
  obtain ⟨hg425, h⟩ := cr_gd_s h
  refine jc_Vi X.c (As := [.int z0_124, .int z0_162, .int ((1 : Int32) + r412)]) (V1 := V425) (C := RX7) (T := TX7) (N := 5) (ci := 7) 3 (m_X7_drawRing l w V_l32 z0_124 z0_162 ((1 : Int32) + r412)  (r425, V425) hr425) ⟨rfl, rfl⟩ ml_L_70 im_X7_drawRing sl_X7_drawRing in_X7 cd_X7_drawRing hd_X7_drawRing ⟨Nat.le_of_ble_eq_true rfl, Nat.le_of_ble_eq_true rfl⟩ (cr_ce_le _) rfl (Nat.le_of_ble_eq_true rfl) (Or.inl (by decide)) ((cr_row_152 w) _) rfl rfl dL_law_425 ?_
  refine jr_cev hg425 ?_
  refine jr_aload_n X.c dL_law_428 rfl 3 rfl ?_
  refine jr_iconst X.c (v := (1 : Int32)) dL_law_429 (by decide) ?_
  obtain ⟨hi430, h⟩ := cr_gd_s h
  refine jr_iald X.c (cr_l_iv X.k0) ((cr_row_iv X.k0) _) hi430 dL_law_430 ?_
  refine jr_iconst X.c (v := (4 : Int32)) dL_law_431 (by decide) ?_
  refine jr_icmp_ne X.c 441 dL_law_432 (by decide) (fun q432 => ?_) (fun q432 => ?_)
  · replace h := cr_if_f q432 h
    refine jr_aload_n X.c dL_law_441 rfl 3 rfl ?_
    refine jr_iconst X.c (v := (1 : Int32)) dL_law_442 (by decide) ?_
    obtain ⟨hi443, h⟩ := cr_gd_s h
    refine jr_iald X.c (cr_l_iv X.k0) ((cr_row_iv X.k0) _) hi443 dL_law_443 ?_
    refine jr_sub [1, 2, 3, 4, 5, 6, 7, 8, 9, 10, 11, 0] rfl ?_
    exact t_L_law_b444 X x6_32 r56 z0_124 z0_162 z0_184 r412 r425 (V425 159 (1 : Int32).toNatClampNeg) V425  x h kl kr1175
  · replace h := cr_if_t q432 h
    refine jr_sipush X.c (v := (-1004 : Int32)) dL_law_435 (by decide) ?_
    refine jr_goto X.c 444 dL_law_438 (by decide) ?_
    refine jr_sub [1, 2, 3, 4, 5, 6, 7, 8, 9, 10, 11, 0] rfl ?_
    exact t_L_law_b444 X x6_32 r56 z0_124 z0_162 z0_184 r412 r425 (-1004 : Int32) V425  x h kl kr1175
def f_L_law_b298 (nL : Nat) (xs : Nat → Int32) (x6_32 : Int32) (r56 : Int32) (z0_124 : Int32) (z0_162 : Int32) (z0_184 : Int32) (r222 : Int32) (r234 : Int32) (z0_256 : Int32) (r267 : Int32) (z0_298 : Int32) (V267 : cr_Hp) : Option ((Int32 × cr_Hp) ⊕ cr_Hp) :=
  if r267 = z0_298 then (if z0_256 = 0 then (some (.inl ((x6_32 + (1 : Int32)), V267))) else (cr_gd (cr_ix (0 : Int32) 8) (if (V267 159 (0 : Int32).toNatClampNeg) = (12 : Int32) then (some (.inl ((x6_32 + (1 : Int32)), V267))) else (cr_gd (cr_ix (0 : Int32) 8) (cr_gd (cr_ix ((5 : Int32) * (V267 159 (0 : Int32).toNatClampNeg)) 60) (cr_lt (cr_pt V267 160 ((5 : Int32) * (V267 159 (0 : Int32).toNatClampNeg)).toNatClampNeg z0_124) (fun (V327 : cr_Hp) => cr_gd (cr_ix (0 : Int32) 8) (cr_gd (cr_ix (((5 : Int32) * (V327 159 (0 : Int32).toNatClampNeg)) + (1 : Int32)) 60) (cr_lt (cr_pt V327 160 (((5 : Int32) * (V327 159 (0 : Int32).toNatClampNeg)) + (1 : Int32)).toNatClampNeg z0_162) (fun (V338 : cr_Hp) => cr_gd (cr_ix (0 : Int32) 8) (cr_gd (cr_ix (((5 : Int32) * (V338 159 (0 : Int32).toNatClampNeg)) + (2 : Int32)) 60) (cr_lt (cr_pt V338 160 (((5 : Int32) * (V338 159 (0 : Int32).toNatClampNeg)) + (2 : Int32)).toNatClampNeg ((1 : Int32) + r222)) (fun (V349 : cr_Hp) => cr_gd (cr_ix (0 : Int32) 8) (cr_gd (cr_ix (((5 : Int32) * (V349 159 (0 : Int32).toNatClampNeg)) + (3 : Int32)) 60) (cr_lt (cr_pt V349 160 (((5 : Int32) * (V349 159 (0 : Int32).toNatClampNeg)) + (3 : Int32)).toNatClampNeg r234) (fun (V360 : cr_Hp) => cr_gd (cr_ix (0 : Int32) 8) (cr_gd (cr_ix (((5 : Int32) * (V360 159 (0 : Int32).toNatClampNeg)) + (4 : Int32)) 60) (cr_lt (cr_pt V360 160 (((5 : Int32) * (V360 159 (0 : Int32).toNatClampNeg)) + (4 : Int32)).toNatClampNeg (-1006 : Int32)) (fun (V372 : cr_Hp) => cr_gd (cr_ix (0 : Int32) 8) (cr_gd (cr_ix (0 : Int32) 8) (cr_lt (cr_pt V372 159 (0 : Int32).toNatClampNeg ((V372 159 (0 : Int32).toNatClampNeg) + (1 : Int32))) (fun (V379 : cr_Hp) => f_L_law_b1018 nL xs x6_32 r56 z0_184 V379)))))))))))))))))))))) else (none)
set_option maxRecDepth 100000 in
set_option maxHeartbeats 4000000 in
theorem t_L_law_b298 {p : Program} {l : Launch} {e : Env} {s : State} {m : MethodId} {args : Array Value} {below : List Frame} {meth : Method} {c : Code} {w : cr_Wd} {Q : State → Prop} (X : cr_LX w p s m args meth c) (x6_32 : Int32) (r56 : Int32) (z0_124 : Int32) (z0_162 : Int32) (z0_184 : Int32) (r222 : Int32) (r234 : Int32) (z0_256 : Int32) (r267 : Int32) (z0_298 : Int32) (V267 : cr_Hp)  (x : (Int32 × cr_Hp) ⊕ cr_Hp) (h : f_L_law_b298 (cr_zL w) (cr_zx w) x6_32 r56 z0_124 z0_162 z0_184 r222 r234 z0_256 r267 z0_298 V267 = some x) (kl : ∀ (x6_32 : Int32) (V_l32 : cr_Hp), x = .inl (x6_32, V_l32) → cr_J w 19 p l e room_1 s m args below meth c (cr_ce V_l32) (cr_sl V_l32) Q V_l32 32 [(0, .ref (cr_zb w)), (1, .ref (w.1 152)), (2, .ref (w.1 159)), (3, .ref (w.1 160)), (4, .ref (w.1 161)), (5, .ref (w.1 162)), (6, .int x6_32)] []) (kr1175 : ∀ (V_e32_1175 : cr_Hp), x = .inr V_e32_1175 → cr_J w 19 p l e room_1 s m args below meth c (cr_ce V_e32_1175) (cr_sl V_e32_1175) Q V_e32_1175 1175 [] []) : cr_J w 19 p l e room_1 s m args below meth c (cr_ce V267) (cr_sl V267) Q V267 298 [(0, .ref (cr_zb w)), (1, .ref (w.1 152)), (2, .ref (w.1 159)), (3, .ref (w.1 160)), (4, .ref (w.1 161)), (5, .ref (w.1 162)), (6, .int x6_32), (8, .int r56), (10, .int z0_124), (11, .int z0_162), (12, .int z0_184), (14, .int ((1 : Int32) + r222)), (15, .int r234), (16, .int z0_256)] [.int z0_298, .int r267] := by
  unfold f_L_law_b298 at h
  refine jr_icmp_eq X.c 303 dL_law_298 (by decide) (fun q298 => ?_) (fun q298 => ?_)
  · replace h := cr_if_t q298 h
    refine jr_iload X.c dL_law_303 13 rfl ?_
    refine jr_if_eq X.c 1169 dL_law_305 (by decide) (fun q305 => ?_) (fun q305 => ?_)
    · replace h := cr_if_t q305 h
      refine jr_iinc X.c (v := (x6_32 + (1 : Int32))) (lv2 := [(6, .int (x6_32 + (1 : Int32))), (0, .ref (cr_zb w)), (1, .ref (w.1 152)), (2, .ref (w.1 159)), (3, .ref (w.1 160)), (4, .ref (w.1 161)), (5, .ref (w.1 162)), (8, .int r56), (10, .int z0_124), (11, .int z0_162), (12, .int z0_184), (14, .int ((1 : Int32) + r222)), (15, .int r234), (16, .int z0_256)]) dL_law_1169 6 rfl (by rfl) (by decide) rfl ?_
      refine jr_goto X.c 32 dL_law_1172 (by decide) ?_
      cases h
      refine jr_sub [1, 2, 3, 4, 5, 6, 0] rfl ?_
      exact kl (x6_32 + (1 : Int32)) V267 rfl
    · replace h := cr_if_f q305 h
      refine jr_aload_n X.c dL_law_308 rfl 2 rfl ?_
      refine jr_iconst X.c (v := (0 : Int32)) dL_law_309 (by decide) ?_
      obtain ⟨hi310, h⟩ := cr_gd_s h
      refine jr_iald X.c (cr_l_iv X.k0) ((cr_row_iv X.k0) _) hi310 dL_law_310 ?_
      refine jr_bipush X.c (v := (12 : Int32)) dL_law_311 (by decide) ?_
      refine jr_icmp_ne X.c 319 dL_law_313 (by decide) (fun q313 => ?_) (fun q313 => ?_)
      · replace h := cr_if_f q313 h
        refine jr_aload_n X.c dL_law_319 rfl 3 rfl ?_
        refine jr_iconst X.c (v := (5 : Int32)) dL_law_320 (by decide) ?_
        refine jr_aload_n X.c dL_law_321 rfl 2 rfl ?_
        refine jr_iconst X.c (v := (0 : Int32)) dL_law_322 (by decide) ?_
        obtain ⟨hi323, h⟩ := cr_gd_s h
        refine jr_iald X.c (cr_l_iv X.k0) ((cr_row_iv X.k0) _) hi323 dL_law_323 ?_
        refine jr_imul X.c dL_law_324 ?_
        refine jr_iload X.c dL_law_325 8 rfl ?_
        obtain ⟨hi327, h⟩ := cr_gd_s h
        obtain ⟨V327, eV327, h⟩ := cr_lt_s h
        refine jr_iast X.c (cr_l_iv X.k1) (cr_row_iv X.k1) hi327 dL_law_327 eV327 ?_
        refine jr_cev (by rw [eV327]; exact congrFun (cr_pt_ne (by decide)) 0) ?_
        refine jr_aload_n X.c dL_law_328 rfl 3 rfl ?_
        refine jr_iconst X.c (v := (5 : Int32)) dL_law_329 (by decide) ?_
        refine jr_aload_n X.c dL_law_330 rfl 2 rfl ?_
        refine jr_iconst X.c (v := (0 : Int32)) dL_law_331 (by decide) ?_
        obtain ⟨hi332, h⟩ := cr_gd_s h
        refine jr_iald X.c (cr_l_iv X.k0) ((cr_row_iv X.k0) _) hi332 dL_law_332 ?_
        refine jr_imul X.c dL_law_333 ?_
        refine jr_iconst X.c (v := (1 : Int32)) dL_law_334 (by decide) ?_
        refine jr_iadd X.c dL_law_335 ?_
        refine jr_iload X.c dL_law_336 9 rfl ?_
        obtain ⟨hi338, h⟩ := cr_gd_s h
        obtain ⟨V338, eV338, h⟩ := cr_lt_s h
        refine jr_iast X.c (cr_l_iv X.k1) (cr_row_iv X.k1) hi338 dL_law_338 eV338 ?_
        refine jr_cev (by rw [eV338]; exact congrFun (cr_pt_ne (by decide)) 0) ?_
        refine jr_aload_n X.c dL_law_339 rfl 3 rfl ?_
        refine jr_iconst X.c (v := (5 : Int32)) dL_law_340 (by decide) ?_
        refine jr_aload_n X.c dL_law_341 rfl 2 rfl ?_
        refine jr_iconst X.c (v := (0 : Int32)) dL_law_342 (by decide) ?_
        obtain ⟨hi343, h⟩ := cr_gd_s h
        refine jr_iald X.c (cr_l_iv X.k0) ((cr_row_iv X.k0) _) hi343 dL_law_343 ?_
        refine jr_imul X.c dL_law_344 ?_
        refine jr_iconst X.c (v := (2 : Int32)) dL_law_345 (by decide) ?_
        refine jr_iadd X.c dL_law_346 ?_
        refine jr_iload X.c dL_law_347 11 rfl ?_
        obtain ⟨hi349, h⟩ := cr_gd_s h
        obtain ⟨V349, eV349, h⟩ := cr_lt_s h
        refine jr_iast X.c (cr_l_iv X.k1) (cr_row_iv X.k1) hi349 dL_law_349 eV349 ?_
        refine jr_cev (by rw [eV349]; exact congrFun (cr_pt_ne (by decide)) 0) ?_
        refine jr_aload_n X.c dL_law_350 rfl 3 rfl ?_
        refine jr_iconst X.c (v := (5 : Int32)) dL_law_351 (by decide) ?_
        refine jr_aload_n X.c dL_law_352 rfl 2 rfl ?_
        refine jr_iconst X.c (v := (0 : Int32)) dL_law_353 (by decide) ?_
        obtain ⟨hi354, h⟩ := cr_gd_s h
        refine jr_iald X.c (cr_l_iv X.k0) ((cr_row_iv X.k0) _) hi354 dL_law_354 ?_
        refine jr_imul X.c dL_law_355 ?_
        refine jr_iconst X.c (v := (3 : Int32)) dL_law_356 (by decide) ?_
        refine jr_iadd X.c dL_law_357 ?_
        refine jr_iload X.c dL_law_358 12 rfl ?_
        obtain ⟨hi360, h⟩ := cr_gd_s h
        obtain ⟨V360, eV360, h⟩ := cr_lt_s h
        refine jr_iast X.c (cr_l_iv X.k1) (cr_row_iv X.k1) hi360 dL_law_360 eV360 ?_
        refine jr_cev (by rw [eV360]; exact congrFun (cr_pt_ne (by decide)) 0) ?_
        refine jr_aload_n X.c dL_law_361 rfl 3 rfl ?_
        refine jr_iconst X.c (v := (5 : Int32)) dL_law_362 (by decide) ?_
        refine jr_aload_n X.c dL_law_363 rfl 2 rfl ?_
        refine jr_iconst X.c (v := (0 : Int32)) dL_law_364 (by decide) ?_
        obtain ⟨hi365, h⟩ := cr_gd_s h
        refine jr_iald X.c (cr_l_iv X.k0) ((cr_row_iv X.k0) _) hi365 dL_law_365 ?_
        refine jr_imul X.c dL_law_366 ?_
        refine jr_iconst X.c (v := (4 : Int32)) dL_law_367 (by decide) ?_
        refine jr_iadd X.c dL_law_368 ?_
        refine jr_sipush X.c (v := (-1006 : Int32)) dL_law_369 (by decide) ?_
        obtain ⟨hi372, h⟩ := cr_gd_s h
        obtain ⟨V372, eV372, h⟩ := cr_lt_s h
        refine jr_iast X.c (cr_l_iv X.k1) (cr_row_iv X.k1) hi372 dL_law_372 eV372 ?_
        refine jr_cev (by rw [eV372]; exact congrFun (cr_pt_ne (by decide)) 0) ?_
        refine jr_aload_n X.c dL_law_373 rfl 2 rfl ?_
        refine jr_iconst X.c (v := (0 : Int32)) dL_law_374 (by decide) ?_
        refine jr_dup2 X.c dL_law_375 rfl rfl ?_
        obtain ⟨hi376, h⟩ := cr_gd_s h
        refine jr_iald X.c (cr_l_iv X.k0) ((cr_row_iv X.k0) _) hi376 dL_law_376 ?_
        refine jr_iconst X.c (v := (1 : Int32)) dL_law_377 (by decide) ?_
        refine jr_iadd X.c dL_law_378 ?_
        obtain ⟨hi379, h⟩ := cr_gd_s h
        obtain ⟨V379, eV379, h⟩ := cr_lt_s h
        refine jr_iast X.c (cr_l_iv X.k0) (cr_row_iv X.k0) hi379 dL_law_379 eV379 ?_
        refine jr_cev (by rw [eV379]; exact congrFun (cr_pt_ne (by decide)) 0) ?_
        refine jr_goto X.c 1018 dL_law_380 (by decide) ?_
        refine jr_sub [0, 1, 2, 3, 4, 5, 6, 7, 10] rfl ?_
        exact t_L_law_b1018 X x6_32 r56 z0_184 V379  x h kl kr1175
      · replace h := cr_if_t q313 h
        refine jr_goto X.c 1169 dL_law_316 (by decide) ?_
        refine jr_iinc X.c (v := (x6_32 + (1 : Int32))) (lv2 := [(6, .int (x6_32 + (1 : Int32))), (0, .ref (cr_zb w)), (1, .ref (w.1 152)), (2, .ref (w.1 159)), (3, .ref (w.1 160)), (4, .ref (w.1 161)), (5, .ref (w.1 162)), (8, .int r56), (10, .int z0_124), (11, .int z0_162), (12, .int z0_184), (14, .int ((1 : Int32) + r222)), (15, .int r234), (16, .int z0_256)]) dL_law_1169 6 rfl (by rfl) (by decide) rfl ?_
        refine jr_goto X.c 32 dL_law_1172 (by decide) ?_
        cases h
        refine jr_sub [1, 2, 3, 4, 5, 6, 0] rfl ?_
        exact kl (x6_32 + (1 : Int32)) V267 rfl
  · replace h := cr_if_f q298 h
    cases h
def f_L_law_b256 (nL : Nat) (xs : Nat → Int32) (x6_32 : Int32) (r56 : Int32) (z0_124 : Int32) (z0_162 : Int32) (z0_184 : Int32) (r222 : Int32) (r234 : Int32) (z0_256 : Int32) (V_l32 : cr_Hp) : Option ((Int32 × cr_Hp) ⊕ cr_Hp) :=
  cr_b2 (f_X7_putMarble z0_124 z0_162 ((1 : Int32) + r222) r234 V_l32) (fun (r267 : Int32) (V267 : cr_Hp) => cr_gd (V267 999 0 = V_l32 999 0) (if z0_256 = 0 then (f_L_law_b298 nL xs x6_32 r56 z0_124 z0_162 z0_184 r222 r234 z0_256 r267 (-1003 : Int32) V267) else (cr_gd (cr_ix (0 : Int32) 8) (if (V267 159 (0 : Int32).toNatClampNeg) = (12 : Int32) then (f_L_law_b298 nL xs x6_32 r56 z0_124 z0_162 z0_184 r222 r234 z0_256 r267 (-1004 : Int32) V267) else (cr_gd (cr_ix (0 : Int32) 8) (f_L_law_b298 nL xs x6_32 r56 z0_124 z0_162 z0_184 r222 r234 z0_256 r267 (V267 159 (0 : Int32).toNatClampNeg) V267))))))
set_option maxRecDepth 100000 in
set_option maxHeartbeats 4000000 in
theorem t_L_law_b256 {p : Program} {l : Launch} {e : Env} {s : State} {m : MethodId} {args : Array Value} {below : List Frame} {meth : Method} {c : Code} {w : cr_Wd} {Q : State → Prop} (X : cr_LX w p s m args meth c) (x6_32 : Int32) (r56 : Int32) (z0_124 : Int32) (z0_162 : Int32) (z0_184 : Int32) (r222 : Int32) (r234 : Int32) (z0_256 : Int32) (V_l32 : cr_Hp)  (x : (Int32 × cr_Hp) ⊕ cr_Hp) (h : f_L_law_b256 (cr_zL w) (cr_zx w) x6_32 r56 z0_124 z0_162 z0_184 r222 r234 z0_256 V_l32 = some x) (kl : ∀ (x6_32 : Int32) (V_l32 : cr_Hp), x = .inl (x6_32, V_l32) → cr_J w 19 p l e room_1 s m args below meth c (cr_ce V_l32) (cr_sl V_l32) Q V_l32 32 [(0, .ref (cr_zb w)), (1, .ref (w.1 152)), (2, .ref (w.1 159)), (3, .ref (w.1 160)), (4, .ref (w.1 161)), (5, .ref (w.1 162)), (6, .int x6_32)] []) (kr1175 : ∀ (V_e32_1175 : cr_Hp), x = .inr V_e32_1175 → cr_J w 19 p l e room_1 s m args below meth c (cr_ce V_e32_1175) (cr_sl V_e32_1175) Q V_e32_1175 1175 [] []) : cr_J w 19 p l e room_1 s m args below meth c (cr_ce V_l32) (cr_sl V_l32) Q V_l32 256 [(0, .ref (cr_zb w)), (1, .ref (w.1 152)), (2, .ref (w.1 159)), (3, .ref (w.1 160)), (4, .ref (w.1 161)), (5, .ref (w.1 162)), (6, .int x6_32), (8, .int r56), (10, .int z0_124), (11, .int z0_162), (12, .int z0_184), (14, .int ((1 : Int32) + r222)), (15, .int r234)] [.int z0_256] := by
  unfold f_L_law_b256 at h
  refine jr_istore X.c (lv2 := [(16, .int z0_256), (0, .ref (cr_zb w)), (1, .ref (w.1 152)), (2, .ref (w.1 159)), (3, .ref (w.1 160)), (4, .ref (w.1 161)), (5, .ref (w.1 162)), (6, .int x6_32), (8, .int r56), (10, .int z0_124), (11, .int z0_162), (12, .int z0_184), (14, .int ((1 : Int32) + r222)), (15, .int r234)]) dL_law_256 (by decide) rfl ?_
  refine jr_aload_n X.c dL_law_258 rfl 2 rfl ?_
  refine jr_iload X.c dL_law_259 9 rfl ?_
  refine jr_iload X.c dL_law_261 10 rfl ?_
  refine jr_iload X.c dL_law_263 12 rfl ?_
  refine jr_iload X.c dL_law_265 13 rfl ?_
  obtain ⟨r267, V267, hr267, h⟩ := cr_b2_s h
  obtain ⟨hg267, h⟩ := cr_gd_s h
  refine jc_Vi X.c (As := [.int z0_124, .int z0_162, .int ((1 : Int32) + r222), .int r234]) (V1 := V267) (C := RX7) (T := TX7) (N := 5) (ci := 7) 4 (m_X7_putMarble l w V_l32 z0_124 z0_162 ((1 : Int32) + r222) r234  (r267, V267) hr267) ⟨rfl, rfl⟩ ml_L_66 im_X7_putMarble sl_X7_putMarble in_X7 cd_X7_putMarble hd_X7_putMarble ⟨Nat.le_of_ble_eq_true rfl, Nat.le_of_ble_eq_true rfl⟩ (cr_ce_le _) rfl (Nat.le_of_ble_eq_true rfl) (Or.inl (by decide)) ((cr_row_152 w) _) rfl rfl dL_law_267 ?_
  refine jr_cev hg267 ?_
  refine jr_iload X.c dL_law_270 0 rfl ?_
  refine jr_if_ne X.c 281 dL_law_272 (by decide) (fun q272 => ?_) (fun q272 => ?_)
  · replace h := cr_if_f q272 h
    refine jr_aload_n X.c dL_law_281 rfl 3 rfl ?_
    refine jr_iconst X.c (v := (0 : Int32)) dL_law_282 (by decide) ?_
    obtain ⟨hi283, h⟩ := cr_gd_s h
    refine jr_iald X.c (cr_l_iv X.k0) ((cr_row_iv X.k0) _) hi283 dL_law_283 ?_
    refine jr_bipush X.c (v := (12 : Int32)) dL_law_284 (by decide) ?_
    refine jr_icmp_ne X.c 295 dL_law_286 (by decide) (fun q286 => ?_) (fun q286 => ?_)
    · replace h := cr_if_f q286 h
      refine jr_aload_n X.c dL_law_295 rfl 3 rfl ?_
      refine jr_iconst X.c (v := (0 : Int32)) dL_law_296 (by decide) ?_
      obtain ⟨hi297, h⟩ := cr_gd_s h
      refine jr_iald X.c (cr_l_iv X.k0) ((cr_row_iv X.k0) _) hi297 dL_law_297 ?_
      refine jr_sub [1, 2, 3, 4, 5, 6, 7, 8, 9, 10, 11, 12, 13, 0] rfl ?_
      exact t_L_law_b298 X x6_32 r56 z0_124 z0_162 z0_184 r222 r234 z0_256 r267 (V267 159 (0 : Int32).toNatClampNeg) V267  x h kl kr1175
    · replace h := cr_if_t q286 h
      refine jr_sipush X.c (v := (-1004 : Int32)) dL_law_289 (by decide) ?_
      refine jr_goto X.c 298 dL_law_292 (by decide) ?_
      refine jr_sub [1, 2, 3, 4, 5, 6, 7, 8, 9, 10, 11, 12, 13, 0] rfl ?_
      exact t_L_law_b298 X x6_32 r56 z0_124 z0_162 z0_184 r222 r234 z0_256 r267 (-1004 : Int32) V267  x h kl kr1175
  · replace h := cr_if_t q272 h
    refine jr_sipush X.c (v := (-1003 : Int32)) dL_law_275 (by decide) ?_
    refine jr_goto X.c 298 dL_law_278 (by decide) ?_
    refine jr_sub [1, 2, 3, 4, 5, 6, 7, 8, 9, 10, 11, 12, 13, 0] rfl ?_
    exact t_L_law_b298 X x6_32 r56 z0_124 z0_162 z0_184 r222 r234 z0_256 r267 (-1003 : Int32) V267  x h kl kr1175
def f_L_law_b208 (nL : Nat) (xs : Nat → Int32) (x6_32 : Int32) (r44 : Int32) (r56 : Int32) (z0_90 : Int32) (z0_124 : Int32) (z0_162 : Int32) (z0_184 : Int32) (z0_208 : Int32) (V_l32 : cr_Hp) : Option ((Int32 × cr_Hp) ⊕ cr_Hp) :=
  if z0_90 = 0 then (cr_bd (f_L_low (r56 >>> ((8 : Int32) &&& 31)) (3 : Int32)) (fun (r222 : Int32) => cr_bd (f_L_low (r56 >>> ((10 : Int32) &&& 31)) (3 : Int32)) (fun (r234 : Int32) => cr_bd (f_L_at 159 160 z0_124 z0_162 V_l32) (fun (r245 : Int32) => if 0 ≤ r245 then (f_L_law_b256 nL xs x6_32 r56 z0_124 z0_162 z0_184 r222 r234 (0 : Int32) V_l32) else (f_L_law_b256 nL xs x6_32 r56 z0_124 z0_162 z0_184 r222 r234 (1 : Int32) V_l32))))) else (if z0_90 = (1 : Int32) then (cr_bd (f_L_low (r44 >>> ((4 : Int32) &&& 31)) (3 : Int32)) (fun (r400 : Int32) => if r400 = 0 then (f_L_law_b412 nL xs x6_32 r56 z0_124 z0_162 z0_184 (15 : Int32) V_l32) else (f_L_law_b412 nL xs x6_32 r56 z0_124 z0_162 z0_184 (4 : Int32) V_l32))) else (if z0_90 = (2 : Int32) then (if z0_208 = 0 then (f_L_law_b530 nL xs x6_32 r56 z0_124 z0_162 z0_184 V_l32) else (cr_bd (f_L_at 159 160 z0_124 z0_162 V_l32) (fun (r520 : Int32) => if 0 ≤ r520 then (f_L_law_b530 nL xs x6_32 r56 z0_124 z0_162 z0_184 V_l32) else (f_L_law_b531 nL xs x6_32 r56 z0_124 z0_162 z0_184 (1 : Int32) V_l32)))) else (if z0_90 = (3 : Int32) then (cr_gd (cr_ix (2 : Int32) 8) (cr_gd (cr_ix (2 : Int32) 8) (cr_lt (cr_pt V_l32 159 (2 : Int32).toNatClampNeg (((V_l32 159 (2 : Int32).toNatClampNeg) + (1 : Int32)) - ((V_l32 159 (2 : Int32).toNatClampNeg) + (1 : Int32)) / (3 : Int32) * (3 : Int32))) (fun (V683 : cr_Hp) => cr_b2 (f_X7_pass  V683) (fun (r685 : Int32) (V685 : cr_Hp) => cr_gd (V685 999 0 = V683 999 0) (cr_gd (cr_ix (2 : Int32) 8) (if r685 = (V685 159 (2 : Int32).toNatClampNeg) then (f_L_law_b1018 nL xs x6_32 r56 z0_184 V685) else (none)))))))) else (if z0_90 = (4 : Int32) then (cr_bd (f_L_low (r56 >>> ((9 : Int32) &&& 31)) (6 : Int32)) (fun (r709 : Int32) => if r709 ≤ 0 then (cr_b2 (f_X7_clear  V_l32) (fun (r719 : Int32) (V719 : cr_Hp) => cr_gd (V719 999 0 = V_l32 999 0) (cr_gd (cr_ix (0 : Int32) 8) (if r719 = (V719 159 (0 : Int32).toNatClampNeg) then (cr_bd (cr_it (fun (q : Int32 × cr_Hp) => f_L_law_l733 nL xs x6_32 r56 z0_184 q.1 q.2) cr_FU ((0 : Int32), V719)) (fun (V_e733_751 : cr_Hp) => f_L_law_b1018 nL xs x6_32 r56 z0_184 V_e733_751)) else (none))))) else (some (.inl ((x6_32 + (1 : Int32)), V_l32))))) else (cr_gd (cr_ix (0 : Int32) 8) (if (V_l32 159 (0 : Int32).toNatClampNeg) ≤ 0 then (f_L_law_b1018 nL xs x6_32 r56 z0_184 V_l32) else (cr_bd (f_L_low (r56 >>> ((5 : Int32) &&& 31)) (8 : Int32)) (fun (r766 : Int32) => cr_bd (f_L_low (r56 >>> ((9 : Int32) &&& 31)) (3 : Int32)) (fun (r782 : Int32) => if r782 = 0 then (f_L_law_b795 nL xs x6_32 r44 r56 z0_184 z0_208 r766 (40 : Int32) V_l32) else (f_L_law_b795 nL xs x6_32 r44 r56 z0_184 z0_208 r766 (14 : Int32) V_l32))))))))))
set_option maxRecDepth 100000 in
set_option maxHeartbeats 4000000 in
theorem t_L_law_b208 {p : Program} {l : Launch} {e : Env} {s : State} {m : MethodId} {args : Array Value} {below : List Frame} {meth : Method} {c : Code} {w : cr_Wd} {Q : State → Prop} (X : cr_LX w p s m args meth c) (x6_32 : Int32) (r44 : Int32) (r56 : Int32) (z0_90 : Int32) (z0_124 : Int32) (z0_162 : Int32) (z0_184 : Int32) (z0_208 : Int32) (V_l32 : cr_Hp)  (x : (Int32 × cr_Hp) ⊕ cr_Hp) (h : f_L_law_b208 (cr_zL w) (cr_zx w) x6_32 r44 r56 z0_90 z0_124 z0_162 z0_184 z0_208 V_l32 = some x) (kl : ∀ (x6_32 : Int32) (V_l32 : cr_Hp), x = .inl (x6_32, V_l32) → cr_J w 19 p l e room_1 s m args below meth c (cr_ce V_l32) (cr_sl V_l32) Q V_l32 32 [(0, .ref (cr_zb w)), (1, .ref (w.1 152)), (2, .ref (w.1 159)), (3, .ref (w.1 160)), (4, .ref (w.1 161)), (5, .ref (w.1 162)), (6, .int x6_32)] []) (kr1175 : ∀ (V_e32_1175 : cr_Hp), x = .inr V_e32_1175 → cr_J w 19 p l e room_1 s m args below meth c (cr_ce V_e32_1175) (cr_sl V_e32_1175) Q V_e32_1175 1175 [] []) : cr_J w 19 p l e room_1 s m args below meth c (cr_ce V_l32) (cr_sl V_l32) Q V_l32 208 [(0, .ref (cr_zb w)), (1, .ref (w.1 152)), (2, .ref (w.1 159)), (3, .ref (w.1 160)), (4, .ref (w.1 161)), (5, .ref (w.1 162)), (6, .int x6_32), (7, .int r44), (8, .int r56), (9, .int z0_90), (10, .int z0_124), (11, .int z0_162), (12, .int z0_184)] [.int z0_208] := by
  unfold f_L_law_b208 at h
  refine jr_istore X.c (lv2 := [(13, .int z0_208), (0, .ref (cr_zb w)), (1, .ref (w.1 152)), (2, .ref (w.1 159)), (3, .ref (w.1 160)), (4, .ref (w.1 161)), (5, .ref (w.1 162)), (6, .int x6_32), (7, .int r44), (8, .int r56), (9, .int z0_90), (10, .int z0_124), (11, .int z0_162), (12, .int z0_184)]) dL_law_208 (by decide) rfl ?_
  refine jr_iload X.c dL_law_210 10 rfl ?_
  refine jr_if_ne X.c 383 dL_law_212 (by decide) (fun q212 => ?_) (fun q212 => ?_)
  · replace h := cr_if_f q212 h
    refine jr_iload X.c dL_law_383 10 rfl ?_
    refine jr_iconst X.c (v := (1 : Int32)) dL_law_385 (by decide) ?_
    refine jr_icmp_ne X.c 503 dL_law_386 (by decide) (fun q386 => ?_) (fun q386 => ?_)
    · replace h := cr_if_f q386 h
      refine jr_iload X.c dL_law_503 10 rfl ?_
      refine jr_iconst X.c (v := (2 : Int32)) dL_law_505 (by decide) ?_
      refine jr_icmp_ne X.c 668 dL_law_506 (by decide) (fun q506 => ?_) (fun q506 => ?_)
      · replace h := cr_if_f q506 h
        refine jr_iload X.c dL_law_668 10 rfl ?_
        refine jr_iconst X.c (v := (3 : Int32)) dL_law_670 (by decide) ?_
        refine jr_icmp_ne X.c 696 dL_law_671 (by decide) (fun q671 => ?_) (fun q671 => ?_)
        · replace h := cr_if_f q671 h
          refine jr_iload X.c dL_law_696 10 rfl ?_
          refine jr_iconst X.c (v := (4 : Int32)) dL_law_698 (by decide) ?_
          refine jr_icmp_ne X.c 754 dL_law_699 (by decide) (fun q699 => ?_) (fun q699 => ?_)
          · replace h := cr_if_f q699 h
            refine jr_aload_n X.c dL_law_754 rfl 3 rfl ?_
            refine jr_iconst X.c (v := (0 : Int32)) dL_law_755 (by decide) ?_
            obtain ⟨hi756, h⟩ := cr_gd_s h
            refine jr_iald X.c (cr_l_iv X.k0) ((cr_row_iv X.k0) _) hi756 dL_law_756 ?_
            refine jr_if_le X.c 1018 dL_law_757 (by decide) (fun q757 => ?_) (fun q757 => ?_)
            · replace h := cr_if_t q757 h
              refine jr_sub [1, 2, 3, 4, 5, 6, 7, 9, 13] rfl ?_
              exact t_L_law_b1018 X x6_32 r56 z0_184 V_l32  x h kl kr1175
            · replace h := cr_if_f q757 h
              refine jr_iload X.c dL_law_760 9 rfl ?_
              refine jr_iconst X.c (v := (5 : Int32)) dL_law_762 (by decide) ?_
              refine jr_ishr X.c dL_law_763 ?_
              refine jr_bipush X.c (v := (8 : Int32)) dL_law_764 (by decide) ?_
              obtain ⟨r766, hr766, h⟩ := cr_bd_s h
              refine jc_Si X.c (As := [.int (r56 >>> ((5 : Int32) &&& 31)), .int (8 : Int32)]) (V1 := V_l32) 2 (m_L_low l w V_l32 (r56 >>> ((5 : Int32) &&& 31)) (8 : Int32)  r766 hr766) ⟨rfl, rfl⟩ ml_L_58 st_L_low in_L cd_L_low hd_L_low ⟨Nat.le_of_ble_eq_true rfl, Nat.le_of_ble_eq_true rfl⟩ (cr_ce_le _) rfl (Nat.le_of_ble_eq_true rfl) rfl dL_law_766 ?_
              refine jr_istore X.c (lv2 := [(14, .int r766), (13, .int z0_208), (0, .ref (cr_zb w)), (1, .ref (w.1 152)), (2, .ref (w.1 159)), (3, .ref (w.1 160)), (4, .ref (w.1 161)), (5, .ref (w.1 162)), (6, .int x6_32), (7, .int r44), (8, .int r56), (9, .int z0_90), (10, .int z0_124), (11, .int z0_162), (12, .int z0_184)]) dL_law_769 (by decide) rfl ?_
              refine jr_iconst X.c (v := (1 : Int32)) dL_law_771 (by decide) ?_
              refine jr_iload X.c dL_law_772 9 rfl ?_
              refine jr_iconst X.c (v := (5 : Int32)) dL_law_774 (by decide) ?_
              refine jr_ishr X.c dL_law_775 ?_
              refine jr_iload X.c dL_law_776 10 rfl ?_
              refine jr_bipush X.c (v := (9 : Int32)) dL_law_778 (by decide) ?_
              refine jr_ishr X.c dL_law_780 ?_
              refine jr_iconst X.c (v := (3 : Int32)) dL_law_781 (by decide) ?_
              obtain ⟨r782, hr782, h⟩ := cr_bd_s h
              refine jc_Si X.c (As := [.int (r56 >>> ((9 : Int32) &&& 31)), .int (3 : Int32)]) (V1 := V_l32) 2 (m_L_low l w V_l32 (r56 >>> ((9 : Int32) &&& 31)) (3 : Int32)  r782 hr782) ⟨rfl, rfl⟩ ml_L_58 st_L_low in_L cd_L_low hd_L_low ⟨Nat.le_of_ble_eq_true rfl, Nat.le_of_ble_eq_true rfl⟩ (cr_ce_le _) rfl (Nat.le_of_ble_eq_true rfl) rfl dL_law_782 ?_
              refine jr_if_ne X.c 793 dL_law_785 (by decide) (fun q785 => ?_) (fun q785 => ?_)
              · replace h := cr_if_f q785 h
                refine jr_bipush X.c (v := (14 : Int32)) dL_law_793 (by decide) ?_
                refine jr_sub [2, 3, 4, 5, 6, 7, 8, 10, 14, 1, 0] rfl ?_
                exact t_L_law_b795 X x6_32 r44 r56 z0_184 z0_208 r766 (14 : Int32) V_l32  x h kl kr1175
              · replace h := cr_if_t q785 h
                refine jr_bipush X.c (v := (40 : Int32)) dL_law_788 (by decide) ?_
                refine jr_goto X.c 795 dL_law_790 (by decide) ?_
                refine jr_sub [2, 3, 4, 5, 6, 7, 8, 10, 14, 1, 0] rfl ?_
                exact t_L_law_b795 X x6_32 r44 r56 z0_184 z0_208 r766 (40 : Int32) V_l32  x h kl kr1175
          · replace h := cr_if_t q699 h
            refine jr_iload X.c dL_law_702 9 rfl ?_
            refine jr_bipush X.c (v := (9 : Int32)) dL_law_704 (by decide) ?_
            refine jr_ishr X.c dL_law_706 ?_
            refine jr_bipush X.c (v := (6 : Int32)) dL_law_707 (by decide) ?_
            obtain ⟨r709, hr709, h⟩ := cr_bd_s h
            refine jc_Si X.c (As := [.int (r56 >>> ((9 : Int32) &&& 31)), .int (6 : Int32)]) (V1 := V_l32) 2 (m_L_low l w V_l32 (r56 >>> ((9 : Int32) &&& 31)) (6 : Int32)  r709 hr709) ⟨rfl, rfl⟩ ml_L_58 st_L_low in_L cd_L_low hd_L_low ⟨Nat.le_of_ble_eq_true rfl, Nat.le_of_ble_eq_true rfl⟩ (cr_ce_le _) rfl (Nat.le_of_ble_eq_true rfl) rfl dL_law_709 ?_
            refine jr_if_le X.c 718 dL_law_712 (by decide) (fun q712 => ?_) (fun q712 => ?_)
            · replace h := cr_if_t q712 h
              refine jr_aload_n X.c dL_law_718 rfl 2 rfl ?_
              obtain ⟨r719, V719, hr719, h⟩ := cr_b2_s h
              obtain ⟨hg719, h⟩ := cr_gd_s h
              refine jc_Vi X.c (As := []) (V1 := V719) (C := RX7) (T := TX7) (N := 5) (ci := 7) 0 (m_X7_clear l w V_l32   (r719, V719) hr719) ⟨rfl, rfl⟩ ml_L_80 im_X7_clear sl_X7_clear in_X7 cd_X7_clear hd_X7_clear ⟨Nat.le_of_ble_eq_true rfl, Nat.le_of_ble_eq_true rfl⟩ (cr_ce_le _) rfl (Nat.le_of_ble_eq_true rfl) (Or.inl (by decide)) ((cr_row_152 w) _) rfl rfl dL_law_719 ?_
              refine jr_cev hg719 ?_
              refine jr_aload_n X.c dL_law_722 rfl 3 rfl ?_
              refine jr_iconst X.c (v := (0 : Int32)) dL_law_723 (by decide) ?_
              obtain ⟨hi724, h⟩ := cr_gd_s h
              refine jr_iald X.c (cr_l_iv X.k0) ((cr_row_iv X.k0) _) hi724 dL_law_724 ?_
              refine jr_icmp_eq X.c 730 dL_law_725 (by decide) (fun q725 => ?_) (fun q725 => ?_)
              · replace h := cr_if_t q725 h
                refine jr_iconst X.c (v := (0 : Int32)) dL_law_730 (by decide) ?_
                refine jr_istore X.c (lv2 := [(14, .int (0 : Int32)), (13, .int z0_208), (0, .ref (cr_zb w)), (1, .ref (w.1 152)), (2, .ref (w.1 159)), (3, .ref (w.1 160)), (4, .ref (w.1 161)), (5, .ref (w.1 162)), (6, .int x6_32), (7, .int r44), (8, .int r56), (9, .int z0_90), (10, .int z0_124), (11, .int z0_162), (12, .int z0_184)]) dL_law_731 (by decide) rfl ?_
                obtain ⟨e733, he733, h⟩ := cr_bd_s h
                have kx751 : ∀ (V_e733_751 : cr_Hp), e733 = V_e733_751 → cr_J w 19 p l e room_1 s m args below meth c (cr_ce V_e733_751) (cr_sl V_e733_751) Q V_e733_751 751 [(0, .ref (cr_zb w)), (1, .ref (w.1 152)), (2, .ref (w.1 159)), (3, .ref (w.1 160)), (4, .ref (w.1 161)), (5, .ref (w.1 162)), (6, .int x6_32), (8, .int r56), (12, .int z0_184)] [] := by
                  intro V_e733_751 qx
                  rw [qx] at h
                  refine jr_goto X.c 1018 dL_law_751 (by decide) ?_
                  refine jr_sub [0, 1, 2, 3, 4, 5, 6, 7, 8] rfl ?_
                  exact t_L_law_b1018 X x6_32 r56 z0_184 V_e733_751  x h kl kr1175
                refine jr_sub [2, 3, 4, 5, 6, 7, 8, 10, 14, 0] rfl ?_
                refine cr_it_W (f := (fun (q : Int32 × cr_Hp) => f_L_law_l733 (cr_zL w) (cr_zx w) x6_32 r56 z0_184 q.1 q.2)) (P := fun (q : Int32 × cr_Hp) => cr_J w 19 p l e room_1 s m args below meth c (cr_ce q.2) (cr_sl q.2) Q q.2 733 [(0, .ref (cr_zb w)), (1, .ref (w.1 152)), (2, .ref (w.1 159)), (3, .ref (w.1 160)), (4, .ref (w.1 161)), (5, .ref (w.1 162)), (6, .int x6_32), (8, .int r56), (12, .int z0_184), (14, .int q.1)] []) (K := fun z => z = e733) (fun q x hx kl kr => ?_) cr_FU ((0 : Int32), V719) e733 he733 rfl
                obtain ⟨x14_733, V_l733⟩ := q
                exact t_L_law_l733 X x6_32 r56 z0_184 x14_733 V_l733  x hx (fun x14_733 V_l733 ez => kl _ ez) (fun V_e733_751 ez => kx751 V_e733_751 ((kr _ ez).symm))
              · replace h := cr_if_f q725 h
                cases h
            · replace h := cr_if_f q712 h
              refine jr_goto X.c 1169 dL_law_715 (by decide) ?_
              refine jr_iinc X.c (v := (x6_32 + (1 : Int32))) (lv2 := [(6, .int (x6_32 + (1 : Int32))), (13, .int z0_208), (0, .ref (cr_zb w)), (1, .ref (w.1 152)), (2, .ref (w.1 159)), (3, .ref (w.1 160)), (4, .ref (w.1 161)), (5, .ref (w.1 162)), (7, .int r44), (8, .int r56), (9, .int z0_90), (10, .int z0_124), (11, .int z0_162), (12, .int z0_184)]) dL_law_1169 7 rfl (by rfl) (by decide) rfl ?_
              refine jr_goto X.c 32 dL_law_1172 (by decide) ?_
              cases h
              refine jr_sub [2, 3, 4, 5, 6, 7, 0] rfl ?_
              exact kl (x6_32 + (1 : Int32)) V_l32 rfl
        · replace h := cr_if_t q671 h
          refine jr_aload_n X.c dL_law_674 rfl 3 rfl ?_
          refine jr_iconst X.c (v := (2 : Int32)) dL_law_675 (by decide) ?_
          refine jr_aload_n X.c dL_law_676 rfl 3 rfl ?_
          refine jr_iconst X.c (v := (2 : Int32)) dL_law_677 (by decide) ?_
          obtain ⟨hi678, h⟩ := cr_gd_s h
          refine jr_iald X.c (cr_l_iv X.k0) ((cr_row_iv X.k0) _) hi678 dL_law_678 ?_
          refine jr_iconst X.c (v := (1 : Int32)) dL_law_679 (by decide) ?_
          refine jr_iadd X.c dL_law_680 ?_
          refine jr_iconst X.c (v := (3 : Int32)) dL_law_681 (by decide) ?_
          refine jr_irem X.c dL_law_682 (by decide) ?_
          obtain ⟨hi683, h⟩ := cr_gd_s h
          obtain ⟨V683, eV683, h⟩ := cr_lt_s h
          refine jr_iast X.c (cr_l_iv X.k0) (cr_row_iv X.k0) hi683 dL_law_683 eV683 ?_
          refine jr_cev (by rw [eV683]; exact congrFun (cr_pt_ne (by decide)) 0) ?_
          refine jr_aload_n X.c dL_law_684 rfl 2 rfl ?_
          obtain ⟨r685, V685, hr685, h⟩ := cr_b2_s h
          obtain ⟨hg685, h⟩ := cr_gd_s h
          refine jc_Vi X.c (As := []) (V1 := V685) (C := RX7) (T := TX7) (N := 5) (ci := 7) 0 (m_X7_pass l w V683   (r685, V685) hr685) ⟨rfl, rfl⟩ ml_L_77 im_X7_pass sl_X7_pass in_X7 cd_X7_pass hd_X7_pass ⟨Nat.le_of_ble_eq_true rfl, Nat.le_of_ble_eq_true rfl⟩ (cr_ce_le _) rfl (Nat.le_of_ble_eq_true rfl) (Or.inl (by decide)) ((cr_row_152 w) _) rfl rfl dL_law_685 ?_
          refine jr_cev hg685 ?_
          refine jr_aload_n X.c dL_law_688 rfl 3 rfl ?_
          refine jr_iconst X.c (v := (2 : Int32)) dL_law_689 (by decide) ?_
          obtain ⟨hi690, h⟩ := cr_gd_s h
          refine jr_iald X.c (cr_l_iv X.k0) ((cr_row_iv X.k0) _) hi690 dL_law_690 ?_
          refine jr_icmp_eq X.c 1018 dL_law_691 (by decide) (fun q691 => ?_) (fun q691 => ?_)
          · replace h := cr_if_t q691 h
            refine jr_sub [1, 2, 3, 4, 5, 6, 7, 9, 13] rfl ?_
            exact t_L_law_b1018 X x6_32 r56 z0_184 V685  x h kl kr1175
          · replace h := cr_if_f q691 h
            cases h
      · replace h := cr_if_t q506 h
        refine jr_iload X.c dL_law_509 0 rfl ?_
        refine jr_if_eq X.c 530 dL_law_511 (by decide) (fun q511 => ?_) (fun q511 => ?_)
        · replace h := cr_if_t q511 h
          refine jr_sub [1, 2, 3, 4, 5, 6, 7, 9, 11, 12, 13] rfl ?_
          exact t_L_law_b530 X x6_32 r56 z0_124 z0_162 z0_184 V_l32  x h kl kr1175
        · replace h := cr_if_f q511 h
          refine jr_iload X.c dL_law_514 11 rfl ?_
          refine jr_iload X.c dL_law_516 12 rfl ?_
          refine jr_aload_n X.c dL_law_518 rfl 3 rfl ?_
          refine jr_aload_n X.c dL_law_519 rfl 4 rfl ?_
          obtain ⟨r520, hr520, h⟩ := cr_bd_s h
          refine jc_Si X.c (As := [.int z0_124, .int z0_162, .ref (w.1 159), .ref (w.1 160)]) (V1 := V_l32) 4 (m_L_at l w V_l32 159 160 z0_124 z0_162 X.k0 X.k1 r520 hr520) ⟨rfl, rfl⟩ ml_L_24 st_L_at in_L cd_L_at hd_L_at ⟨Nat.le_of_ble_eq_true rfl, Nat.le_of_ble_eq_true rfl⟩ (cr_ce_le _) rfl (Nat.le_of_ble_eq_true rfl) rfl dL_law_520 ?_
          refine jr_if_ge X.c 530 dL_law_523 (by decide) (fun q523 => ?_) (fun q523 => ?_)
          · replace h := cr_if_t q523 h
            refine jr_sub [1, 2, 3, 4, 5, 6, 7, 9, 11, 12, 13] rfl ?_
            exact t_L_law_b530 X x6_32 r56 z0_124 z0_162 z0_184 V_l32  x h kl kr1175
          · replace h := cr_if_f q523 h
            refine jr_iconst X.c (v := (1 : Int32)) dL_law_526 (by decide) ?_
            refine jr_goto X.c 531 dL_law_527 (by decide) ?_
            refine jr_sub [1, 2, 3, 4, 5, 6, 7, 9, 11, 12, 13] rfl ?_
            exact t_L_law_b531 X x6_32 r56 z0_124 z0_162 z0_184 (1 : Int32) V_l32  x h kl kr1175
    · replace h := cr_if_t q386 h
      refine jr_iconst X.c (v := (1 : Int32)) dL_law_389 (by decide) ?_
      refine jr_iload X.c dL_law_390 9 rfl ?_
      refine jr_bipush X.c (v := (8 : Int32)) dL_law_392 (by decide) ?_
      refine jr_ishr X.c dL_law_394 ?_
      refine jr_iload X.c dL_law_395 8 rfl ?_
      refine jr_iconst X.c (v := (4 : Int32)) dL_law_397 (by decide) ?_
      refine jr_ishr X.c dL_law_398 ?_
      refine jr_iconst X.c (v := (3 : Int32)) dL_law_399 (by decide) ?_
      obtain ⟨r400, hr400, h⟩ := cr_bd_s h
      refine jc_Si X.c (As := [.int (r44 >>> ((4 : Int32) &&& 31)), .int (3 : Int32)]) (V1 := V_l32) 2 (m_L_low l w V_l32 (r44 >>> ((4 : Int32) &&& 31)) (3 : Int32)  r400 hr400) ⟨rfl, rfl⟩ ml_L_58 st_L_low in_L cd_L_low hd_L_low ⟨Nat.le_of_ble_eq_true rfl, Nat.le_of_ble_eq_true rfl⟩ (cr_ce_le _) rfl (Nat.le_of_ble_eq_true rfl) rfl dL_law_400 ?_
      refine jr_if_ne X.c 411 dL_law_403 (by decide) (fun q403 => ?_) (fun q403 => ?_)
      · replace h := cr_if_f q403 h
        refine jr_iconst X.c (v := (4 : Int32)) dL_law_411 (by decide) ?_
        refine jr_sub [1, 2, 3, 4, 5, 6, 7, 9, 11, 12, 13] rfl ?_
        exact t_L_law_b412 X x6_32 r56 z0_124 z0_162 z0_184 (4 : Int32) V_l32  x h kl kr1175
      · replace h := cr_if_t q403 h
        refine jr_bipush X.c (v := (15 : Int32)) dL_law_406 (by decide) ?_
        refine jr_goto X.c 412 dL_law_408 (by decide) ?_
        refine jr_sub [1, 2, 3, 4, 5, 6, 7, 9, 11, 12, 13] rfl ?_
        exact t_L_law_b412 X x6_32 r56 z0_124 z0_162 z0_184 (15 : Int32) V_l32  x h kl kr1175
  · replace h := cr_if_t q212 h
    refine jr_iconst X.c (v := (1 : Int32)) dL_law_215 (by decide) ?_
    refine jr_iload X.c dL_law_216 9 rfl ?_
    refine jr_bipush X.c (v := (8 : Int32)) dL_law_218 (by decide) ?_
    refine jr_ishr X.c dL_law_220 ?_
    refine jr_iconst X.c (v := (3 : Int32)) dL_law_221 (by decide) ?_
    obtain ⟨r222, hr222, h⟩ := cr_bd_s h
    refine jc_Si X.c (As := [.int (r56 >>> ((8 : Int32) &&& 31)), .int (3 : Int32)]) (V1 := V_l32) 2 (m_L_low l w V_l32 (r56 >>> ((8 : Int32) &&& 31)) (3 : Int32)  r222 hr222) ⟨rfl, rfl⟩ ml_L_58 st_L_low in_L cd_L_low hd_L_low ⟨Nat.le_of_ble_eq_true rfl, Nat.le_of_ble_eq_true rfl⟩ (cr_ce_le _) rfl (Nat.le_of_ble_eq_true rfl) rfl dL_law_222 ?_
    refine jr_iadd X.c dL_law_225 ?_
    refine jr_istore X.c (lv2 := [(14, .int ((1 : Int32) + r222)), (13, .int z0_208), (0, .ref (cr_zb w)), (1, .ref (w.1 152)), (2, .ref (w.1 159)), (3, .ref (w.1 160)), (4, .ref (w.1 161)), (5, .ref (w.1 162)), (6, .int x6_32), (7, .int r44), (8, .int r56), (9, .int z0_90), (10, .int z0_124), (11, .int z0_162), (12, .int z0_184)]) dL_law_226 (by decide) rfl ?_
    refine jr_iload X.c dL_law_228 10 rfl ?_
    refine jr_bipush X.c (v := (10 : Int32)) dL_law_230 (by decide) ?_
    refine jr_ishr X.c dL_law_232 ?_
    refine jr_iconst X.c (v := (3 : Int32)) dL_law_233 (by decide) ?_
    obtain ⟨r234, hr234, h⟩ := cr_bd_s h
    refine jc_Si X.c (As := [.int (r56 >>> ((10 : Int32) &&& 31)), .int (3 : Int32)]) (V1 := V_l32) 2 (m_L_low l w V_l32 (r56 >>> ((10 : Int32) &&& 31)) (3 : Int32)  r234 hr234) ⟨rfl, rfl⟩ ml_L_58 st_L_low in_L cd_L_low hd_L_low ⟨Nat.le_of_ble_eq_true rfl, Nat.le_of_ble_eq_true rfl⟩ (cr_ce_le _) rfl (Nat.le_of_ble_eq_true rfl) rfl dL_law_234 ?_
    refine jr_istore X.c (lv2 := [(15, .int r234), (14, .int ((1 : Int32) + r222)), (13, .int z0_208), (0, .ref (cr_zb w)), (1, .ref (w.1 152)), (2, .ref (w.1 159)), (3, .ref (w.1 160)), (4, .ref (w.1 161)), (5, .ref (w.1 162)), (6, .int x6_32), (7, .int r44), (8, .int r56), (9, .int z0_90), (10, .int z0_124), (11, .int z0_162), (12, .int z0_184)]) dL_law_237 (by decide) rfl ?_
    refine jr_iload X.c dL_law_239 13 rfl ?_
    refine jr_iload X.c dL_law_241 14 rfl ?_
    refine jr_aload_n X.c dL_law_243 rfl 5 rfl ?_
    refine jr_aload_n X.c dL_law_244 rfl 6 rfl ?_
    obtain ⟨r245, hr245, h⟩ := cr_bd_s h
    refine jc_Si X.c (As := [.int z0_124, .int z0_162, .ref (w.1 159), .ref (w.1 160)]) (V1 := V_l32) 4 (m_L_at l w V_l32 159 160 z0_124 z0_162 X.k0 X.k1 r245 hr245) ⟨rfl, rfl⟩ ml_L_24 st_L_at in_L cd_L_at hd_L_at ⟨Nat.le_of_ble_eq_true rfl, Nat.le_of_ble_eq_true rfl⟩ (cr_ce_le _) rfl (Nat.le_of_ble_eq_true rfl) rfl dL_law_245 ?_
    refine jr_if_ge X.c 255 dL_law_248 (by decide) (fun q248 => ?_) (fun q248 => ?_)
    · replace h := cr_if_t q248 h
      refine jr_iconst X.c (v := (0 : Int32)) dL_law_255 (by decide) ?_
      refine jr_sub [3, 4, 5, 6, 7, 8, 9, 11, 13, 14, 15, 1, 0] rfl ?_
      exact t_L_law_b256 X x6_32 r56 z0_124 z0_162 z0_184 r222 r234 (0 : Int32) V_l32  x h kl kr1175
    · replace h := cr_if_f q248 h
      refine jr_iconst X.c (v := (1 : Int32)) dL_law_251 (by decide) ?_
      refine jr_goto X.c 256 dL_law_252 (by decide) ?_
      refine jr_sub [3, 4, 5, 6, 7, 8, 9, 11, 13, 14, 15, 1, 0] rfl ?_
      exact t_L_law_b256 X x6_32 r56 z0_124 z0_162 z0_184 r222 r234 (1 : Int32) V_l32  x h kl kr1175
def f_L_law_b207 (nL : Nat) (xs : Nat → Int32) (x6_32 : Int32) (r44 : Int32) (r56 : Int32) (z0_90 : Int32) (z0_124 : Int32) (z0_162 : Int32) (z0_184 : Int32) (V_l32 : cr_Hp) : Option ((Int32 × cr_Hp) ⊕ cr_Hp) :=
  f_L_law_b208 nL xs x6_32 r44 r56 z0_90 z0_124 z0_162 z0_184 (0 : Int32) V_l32
set_option maxRecDepth 100000 in
set_option maxHeartbeats 4000000 in
theorem t_L_law_b207 {p : Program} {l : Launch} {e : Env} {s : State} {m : MethodId} {args : Array Value} {below : List Frame} {meth : Method} {c : Code} {w : cr_Wd} {Q : State → Prop} (X : cr_LX w p s m args meth c) (x6_32 : Int32) (r44 : Int32) (r56 : Int32) (z0_90 : Int32) (z0_124 : Int32) (z0_162 : Int32) (z0_184 : Int32) (V_l32 : cr_Hp)  (x : (Int32 × cr_Hp) ⊕ cr_Hp) (h : f_L_law_b207 (cr_zL w) (cr_zx w) x6_32 r44 r56 z0_90 z0_124 z0_162 z0_184 V_l32 = some x) (kl : ∀ (x6_32 : Int32) (V_l32 : cr_Hp), x = .inl (x6_32, V_l32) → cr_J w 19 p l e room_1 s m args below meth c (cr_ce V_l32) (cr_sl V_l32) Q V_l32 32 [(0, .ref (cr_zb w)), (1, .ref (w.1 152)), (2, .ref (w.1 159)), (3, .ref (w.1 160)), (4, .ref (w.1 161)), (5, .ref (w.1 162)), (6, .int x6_32)] []) (kr1175 : ∀ (V_e32_1175 : cr_Hp), x = .inr V_e32_1175 → cr_J w 19 p l e room_1 s m args below meth c (cr_ce V_e32_1175) (cr_sl V_e32_1175) Q V_e32_1175 1175 [] []) : cr_J w 19 p l e room_1 s m args below meth c (cr_ce V_l32) (cr_sl V_l32) Q V_l32 207 [(0, .ref (cr_zb w)), (1, .ref (w.1 152)), (2, .ref (w.1 159)), (3, .ref (w.1 160)), (4, .ref (w.1 161)), (5, .ref (w.1 162)), (6, .int x6_32), (7, .int r44), (8, .int r56), (9, .int z0_90), (10, .int z0_124), (11, .int z0_162), (12, .int z0_184)] [] := by
  unfold f_L_law_b207 at h
  refine jr_iconst X.c (v := (0 : Int32)) dL_law_207 (by decide) ?_
  refine jr_sub [0, 1, 2, 3, 4, 5, 6, 7, 8, 9, 10, 11, 12] rfl ?_
  exact t_L_law_b208 X x6_32 r44 r56 z0_90 z0_124 z0_162 z0_184 (0 : Int32) V_l32  x h kl kr1175
def f_L_law_b184 (nL : Nat) (xs : Nat → Int32) (x6_32 : Int32) (r44 : Int32) (r56 : Int32) (z0_90 : Int32) (z0_124 : Int32) (z0_162 : Int32) (z0_184 : Int32) (V_l32 : cr_Hp) : Option ((Int32 × cr_Hp) ⊕ cr_Hp) :=
  cr_gd (cr_ix (0 : Int32) 8) (if (V_l32 159 (0 : Int32).toNatClampNeg) ≤ 0 then (f_L_law_b207 nL xs x6_32 r44 r56 z0_90 z0_124 z0_162 z0_184 V_l32) else (cr_gd (cr_ix (((5 : Int32) * z0_184) + (4 : Int32)) 60) (if 0 ≤ (V_l32 160 (((5 : Int32) * z0_184) + (4 : Int32)).toNatClampNeg) then (f_L_law_b207 nL xs x6_32 r44 r56 z0_90 z0_124 z0_162 z0_184 V_l32) else (f_L_law_b208 nL xs x6_32 r44 r56 z0_90 z0_124 z0_162 z0_184 (1 : Int32) V_l32))))
set_option maxRecDepth 100000 in
set_option maxHeartbeats 4000000 in
theorem t_L_law_b184 {p : Program} {l : Launch} {e : Env} {s : State} {m : MethodId} {args : Array Value} {below : List Frame} {meth : Method} {c : Code} {w : cr_Wd} {Q : State → Prop} (X : cr_LX w p s m args meth c) (x6_32 : Int32) (r44 : Int32) (r56 : Int32) (z0_90 : Int32) (z0_124 : Int32) (z0_162 : Int32) (z0_184 : Int32) (V_l32 : cr_Hp)  (x : (Int32 × cr_Hp) ⊕ cr_Hp) (h : f_L_law_b184 (cr_zL w) (cr_zx w) x6_32 r44 r56 z0_90 z0_124 z0_162 z0_184 V_l32 = some x) (kl : ∀ (x6_32 : Int32) (V_l32 : cr_Hp), x = .inl (x6_32, V_l32) → cr_J w 19 p l e room_1 s m args below meth c (cr_ce V_l32) (cr_sl V_l32) Q V_l32 32 [(0, .ref (cr_zb w)), (1, .ref (w.1 152)), (2, .ref (w.1 159)), (3, .ref (w.1 160)), (4, .ref (w.1 161)), (5, .ref (w.1 162)), (6, .int x6_32)] []) (kr1175 : ∀ (V_e32_1175 : cr_Hp), x = .inr V_e32_1175 → cr_J w 19 p l e room_1 s m args below meth c (cr_ce V_e32_1175) (cr_sl V_e32_1175) Q V_e32_1175 1175 [] []) : cr_J w 19 p l e room_1 s m args below meth c (cr_ce V_l32) (cr_sl V_l32) Q V_l32 184 [(0, .ref (cr_zb w)), (1, .ref (w.1 152)), (2, .ref (w.1 159)), (3, .ref (w.1 160)), (4, .ref (w.1 161)), (5, .ref (w.1 162)), (6, .int x6_32), (7, .int r44), (8, .int r56), (9, .int z0_90), (10, .int z0_124), (11, .int z0_162)] [.int z0_184] := by
  unfold f_L_law_b184 at h
  refine jr_istore X.c (lv2 := [(12, .int z0_184), (0, .ref (cr_zb w)), (1, .ref (w.1 152)), (2, .ref (w.1 159)), (3, .ref (w.1 160)), (4, .ref (w.1 161)), (5, .ref (w.1 162)), (6, .int x6_32), (7, .int r44), (8, .int r56), (9, .int z0_90), (10, .int z0_124), (11, .int z0_162)]) dL_law_184 (by decide) rfl ?_
  refine jr_aload_n X.c dL_law_186 rfl 3 rfl ?_
  refine jr_iconst X.c (v := (0 : Int32)) dL_law_187 (by decide) ?_
  obtain ⟨hi188, h⟩ := cr_gd_s h
  refine jr_iald X.c (cr_l_iv X.k0) ((cr_row_iv X.k0) _) hi188 dL_law_188 ?_
  refine jr_if_le X.c 207 dL_law_189 (by decide) (fun q189 => ?_) (fun q189 => ?_)
  · replace h := cr_if_t q189 h
    refine jr_sub [1, 2, 3, 4, 5, 6, 7, 8, 9, 10, 11, 12, 0] rfl ?_
    exact t_L_law_b207 X x6_32 r44 r56 z0_90 z0_124 z0_162 z0_184 V_l32  x h kl kr1175
  · replace h := cr_if_f q189 h
    refine jr_aload_n X.c dL_law_192 rfl 4 rfl ?_
    refine jr_iconst X.c (v := (5 : Int32)) dL_law_193 (by decide) ?_
    refine jr_iload X.c dL_law_194 0 rfl ?_
    refine jr_imul X.c dL_law_196 ?_
    refine jr_iconst X.c (v := (4 : Int32)) dL_law_197 (by decide) ?_
    refine jr_iadd X.c dL_law_198 ?_
    obtain ⟨hi199, h⟩ := cr_gd_s h
    refine jr_iald X.c (cr_l_iv X.k1) ((cr_row_iv X.k1) _) hi199 dL_law_199 ?_
    refine jr_if_ge X.c 207 dL_law_200 (by decide) (fun q200 => ?_) (fun q200 => ?_)
    · replace h := cr_if_t q200 h
      refine jr_sub [1, 2, 3, 4, 5, 6, 7, 8, 9, 10, 11, 12, 0] rfl ?_
      exact t_L_law_b207 X x6_32 r44 r56 z0_90 z0_124 z0_162 z0_184 V_l32  x h kl kr1175
    · replace h := cr_if_f q200 h
      refine jr_iconst X.c (v := (1 : Int32)) dL_law_203 (by decide) ?_
      refine jr_goto X.c 208 dL_law_204 (by decide) ?_
      refine jr_sub [1, 2, 3, 4, 5, 6, 7, 8, 9, 10, 11, 12, 0] rfl ?_
      exact t_L_law_b208 X x6_32 r44 r56 z0_90 z0_124 z0_162 z0_184 (1 : Int32) V_l32  x h kl kr1175
def f_L_law_b162 (nL : Nat) (xs : Nat → Int32) (x6_32 : Int32) (r44 : Int32) (r56 : Int32) (z0_90 : Int32) (z0_124 : Int32) (z0_162 : Int32) (V_l32 : cr_Hp) : Option ((Int32 × cr_Hp) ⊕ cr_Hp) :=
  cr_gd (cr_ix (0 : Int32) 8) (if (V_l32 159 (0 : Int32).toNatClampNeg) = 0 then (f_L_law_b184 nL xs x6_32 r44 r56 z0_90 z0_124 z0_162 (0 : Int32) V_l32) else (cr_gd (cr_ix (0 : Int32) 8) (cr_bd (f_L_low (r56 >>> ((2 : Int32) &&& 31)) (V_l32 159 (0 : Int32).toNatClampNeg)) (fun (r181 : Int32) => f_L_law_b184 nL xs x6_32 r44 r56 z0_90 z0_124 z0_162 r181 V_l32))))
set_option maxRecDepth 100000 in
set_option maxHeartbeats 4000000 in
theorem t_L_law_b162 {p : Program} {l : Launch} {e : Env} {s : State} {m : MethodId} {args : Array Value} {below : List Frame} {meth : Method} {c : Code} {w : cr_Wd} {Q : State → Prop} (X : cr_LX w p s m args meth c) (x6_32 : Int32) (r44 : Int32) (r56 : Int32) (z0_90 : Int32) (z0_124 : Int32) (z0_162 : Int32) (V_l32 : cr_Hp)  (x : (Int32 × cr_Hp) ⊕ cr_Hp) (h : f_L_law_b162 (cr_zL w) (cr_zx w) x6_32 r44 r56 z0_90 z0_124 z0_162 V_l32 = some x) (kl : ∀ (x6_32 : Int32) (V_l32 : cr_Hp), x = .inl (x6_32, V_l32) → cr_J w 19 p l e room_1 s m args below meth c (cr_ce V_l32) (cr_sl V_l32) Q V_l32 32 [(0, .ref (cr_zb w)), (1, .ref (w.1 152)), (2, .ref (w.1 159)), (3, .ref (w.1 160)), (4, .ref (w.1 161)), (5, .ref (w.1 162)), (6, .int x6_32)] []) (kr1175 : ∀ (V_e32_1175 : cr_Hp), x = .inr V_e32_1175 → cr_J w 19 p l e room_1 s m args below meth c (cr_ce V_e32_1175) (cr_sl V_e32_1175) Q V_e32_1175 1175 [] []) : cr_J w 19 p l e room_1 s m args below meth c (cr_ce V_l32) (cr_sl V_l32) Q V_l32 162 [(0, .ref (cr_zb w)), (1, .ref (w.1 152)), (2, .ref (w.1 159)), (3, .ref (w.1 160)), (4, .ref (w.1 161)), (5, .ref (w.1 162)), (6, .int x6_32), (7, .int r44), (8, .int r56), (9, .int z0_90), (10, .int z0_124)] [.int z0_162] := by
  unfold f_L_law_b162 at h
  refine jr_istore X.c (lv2 := [(11, .int z0_162), (0, .ref (cr_zb w)), (1, .ref (w.1 152)), (2, .ref (w.1 159)), (3, .ref (w.1 160)), (4, .ref (w.1 161)), (5, .ref (w.1 162)), (6, .int x6_32), (7, .int r44), (8, .int r56), (9, .int z0_90), (10, .int z0_124)]) dL_law_162 (by decide) rfl ?_
  refine jr_aload_n X.c dL_law_164 rfl 3 rfl ?_
  refine jr_iconst X.c (v := (0 : Int32)) dL_law_165 (by decide) ?_
  obtain ⟨hi166, h⟩ := cr_gd_s h
  refine jr_iald X.c (cr_l_iv X.k0) ((cr_row_iv X.k0) _) hi166 dL_law_166 ?_
  refine jr_if_ne X.c 174 dL_law_167 (by decide) (fun q167 => ?_) (fun q167 => ?_)
  · replace h := cr_if_f q167 h
    refine jr_iload X.c dL_law_174 9 rfl ?_
    refine jr_iconst X.c (v := (2 : Int32)) dL_law_176 (by decide) ?_
    refine jr_ishr X.c dL_law_177 ?_
    refine jr_aload_n X.c dL_law_178 rfl 3 rfl ?_
    refine jr_iconst X.c (v := (0 : Int32)) dL_law_179 (by decide) ?_
    obtain ⟨hi180, h⟩ := cr_gd_s h
    refine jr_iald X.c (cr_l_iv X.k0) ((cr_row_iv X.k0) _) hi180 dL_law_180 ?_
    obtain ⟨r181, hr181, h⟩ := cr_bd_s h
    refine jc_Si X.c (As := [.int (r56 >>> ((2 : Int32) &&& 31)), .int (V_l32 159 (0 : Int32).toNatClampNeg)]) (V1 := V_l32) 2 (m_L_low l w V_l32 (r56 >>> ((2 : Int32) &&& 31)) (V_l32 159 (0 : Int32).toNatClampNeg)  r181 hr181) ⟨rfl, rfl⟩ ml_L_58 st_L_low in_L cd_L_low hd_L_low ⟨Nat.le_of_ble_eq_true rfl, Nat.le_of_ble_eq_true rfl⟩ (cr_ce_le _) rfl (Nat.le_of_ble_eq_true rfl) rfl dL_law_181 ?_
    refine jr_sub [1, 2, 3, 4, 5, 6, 7, 8, 9, 10, 11, 0] rfl ?_
    exact t_L_law_b184 X x6_32 r44 r56 z0_90 z0_124 z0_162 r181 V_l32  x h kl kr1175
  · replace h := cr_if_t q167 h
    refine jr_iconst X.c (v := (0 : Int32)) dL_law_170 (by decide) ?_
    refine jr_goto X.c 184 dL_law_171 (by decide) ?_
    refine jr_sub [1, 2, 3, 4, 5, 6, 7, 8, 9, 10, 11, 0] rfl ?_
    exact t_L_law_b184 X x6_32 r44 r56 z0_90 z0_124 z0_162 (0 : Int32) V_l32  x h kl kr1175
def f_L_law_b124 (nL : Nat) (xs : Nat → Int32) (x6_32 : Int32) (r44 : Int32) (r56 : Int32) (z0_90 : Int32) (z0_124 : Int32) (V_l32 : cr_Hp) : Option ((Int32 × cr_Hp) ⊕ cr_Hp) :=
  cr_bd (f_L_low (r44 >>> ((7 : Int32) &&& 31)) (4 : Int32)) (fun (r132 : Int32) => if r132 = 0 then (cr_bd (f_L_low (r56 >>> ((4 : Int32) &&& 31)) (31 : Int32)) (fun (r144 : Int32) => f_L_law_b162 nL xs x6_32 r44 r56 z0_90 z0_124 r144 V_l32)) else (cr_bd (f_L_low (r56 >>> ((4 : Int32) &&& 31)) (9 : Int32)) (fun (r158 : Int32) => f_L_law_b162 nL xs x6_32 r44 r56 z0_90 z0_124 ((8 : Int32) + r158) V_l32)))
set_option maxRecDepth 100000 in
set_option maxHeartbeats 4000000 in
theorem t_L_law_b124 {p : Program} {l : Launch} {e : Env} {s : State} {m : MethodId} {args : Array Value} {below : List Frame} {meth : Method} {c : Code} {w : cr_Wd} {Q : State → Prop} (X : cr_LX w p s m args meth c) (x6_32 : Int32) (r44 : Int32) (r56 : Int32) (z0_90 : Int32) (z0_124 : Int32) (V_l32 : cr_Hp)  (x : (Int32 × cr_Hp) ⊕ cr_Hp) (h : f_L_law_b124 (cr_zL w) (cr_zx w) x6_32 r44 r56 z0_90 z0_124 V_l32 = some x) (kl : ∀ (x6_32 : Int32) (V_l32 : cr_Hp), x = .inl (x6_32, V_l32) → cr_J w 19 p l e room_1 s m args below meth c (cr_ce V_l32) (cr_sl V_l32) Q V_l32 32 [(0, .ref (cr_zb w)), (1, .ref (w.1 152)), (2, .ref (w.1 159)), (3, .ref (w.1 160)), (4, .ref (w.1 161)), (5, .ref (w.1 162)), (6, .int x6_32)] []) (kr1175 : ∀ (V_e32_1175 : cr_Hp), x = .inr V_e32_1175 → cr_J w 19 p l e room_1 s m args below meth c (cr_ce V_e32_1175) (cr_sl V_e32_1175) Q V_e32_1175 1175 [] []) : cr_J w 19 p l e room_1 s m args below meth c (cr_ce V_l32) (cr_sl V_l32) Q V_l32 124 [(0, .ref (cr_zb w)), (1, .ref (w.1 152)), (2, .ref (w.1 159)), (3, .ref (w.1 160)), (4, .ref (w.1 161)), (5, .ref (w.1 162)), (6, .int x6_32), (7, .int r44), (8, .int r56), (9, .int z0_90)] [.int z0_124] := by
  unfold f_L_law_b124 at h
  refine jr_istore X.c (lv2 := [(10, .int z0_124), (0, .ref (cr_zb w)), (1, .ref (w.1 152)), (2, .ref (w.1 159)), (3, .ref (w.1 160)), (4, .ref (w.1 161)), (5, .ref (w.1 162)), (6, .int x6_32), (7, .int r44), (8, .int r56), (9, .int z0_90)]) dL_law_124 (by decide) rfl ?_
  refine jr_iload X.c dL_law_126 8 rfl ?_
  refine jr_bipush X.c (v := (7 : Int32)) dL_law_128 (by decide) ?_
  refine jr_ishr X.c dL_law_130 ?_
  refine jr_iconst X.c (v := (4 : Int32)) dL_law_131 (by decide) ?_
  obtain ⟨r132, hr132, h⟩ := cr_bd_s h
  refine jc_Si X.c (As := [.int (r44 >>> ((7 : Int32) &&& 31)), .int (4 : Int32)]) (V1 := V_l32) 2 (m_L_low l w V_l32 (r44 >>> ((7 : Int32) &&& 31)) (4 : Int32)  r132 hr132) ⟨rfl, rfl⟩ ml_L_58 st_L_low in_L cd_L_low hd_L_low ⟨Nat.le_of_ble_eq_true rfl, Nat.le_of_ble_eq_true rfl⟩ (cr_ce_le _) rfl (Nat.le_of_ble_eq_true rfl) rfl dL_law_132 ?_
  refine jr_if_ne X.c 150 dL_law_135 (by decide) (fun q135 => ?_) (fun q135 => ?_)
  · replace h := cr_if_f q135 h
    refine jr_bipush X.c (v := (8 : Int32)) dL_law_150 (by decide) ?_
    refine jr_iload X.c dL_law_152 9 rfl ?_
    refine jr_iconst X.c (v := (4 : Int32)) dL_law_154 (by decide) ?_
    refine jr_ishr X.c dL_law_155 ?_
    refine jr_bipush X.c (v := (9 : Int32)) dL_law_156 (by decide) ?_
    obtain ⟨r158, hr158, h⟩ := cr_bd_s h
    refine jc_Si X.c (As := [.int (r56 >>> ((4 : Int32) &&& 31)), .int (9 : Int32)]) (V1 := V_l32) 2 (m_L_low l w V_l32 (r56 >>> ((4 : Int32) &&& 31)) (9 : Int32)  r158 hr158) ⟨rfl, rfl⟩ ml_L_58 st_L_low in_L cd_L_low hd_L_low ⟨Nat.le_of_ble_eq_true rfl, Nat.le_of_ble_eq_true rfl⟩ (cr_ce_le _) rfl (Nat.le_of_ble_eq_true rfl) rfl dL_law_158 ?_
    refine jr_iadd X.c dL_law_161 ?_
    refine jr_sub [1, 2, 3, 4, 5, 6, 7, 8, 9, 10, 0] rfl ?_
    exact t_L_law_b162 X x6_32 r44 r56 z0_90 z0_124 ((8 : Int32) + r158) V_l32  x h kl kr1175
  · replace h := cr_if_t q135 h
    refine jr_iload X.c dL_law_138 9 rfl ?_
    refine jr_iconst X.c (v := (4 : Int32)) dL_law_140 (by decide) ?_
    refine jr_ishr X.c dL_law_141 ?_
    refine jr_bipush X.c (v := (31 : Int32)) dL_law_142 (by decide) ?_
    obtain ⟨r144, hr144, h⟩ := cr_bd_s h
    refine jc_Si X.c (As := [.int (r56 >>> ((4 : Int32) &&& 31)), .int (31 : Int32)]) (V1 := V_l32) 2 (m_L_low l w V_l32 (r56 >>> ((4 : Int32) &&& 31)) (31 : Int32)  r144 hr144) ⟨rfl, rfl⟩ ml_L_58 st_L_low in_L cd_L_low hd_L_low ⟨Nat.le_of_ble_eq_true rfl, Nat.le_of_ble_eq_true rfl⟩ (cr_ce_le _) rfl (Nat.le_of_ble_eq_true rfl) rfl dL_law_144 ?_
    refine jr_goto X.c 162 dL_law_147 (by decide) ?_
    refine jr_sub [1, 2, 3, 4, 5, 6, 7, 8, 9, 10, 0] rfl ?_
    exact t_L_law_b162 X x6_32 r44 r56 z0_90 z0_124 r144 V_l32  x h kl kr1175
def f_L_law_b90 (nL : Nat) (xs : Nat → Int32) (x6_32 : Int32) (r44 : Int32) (r56 : Int32) (z0_90 : Int32) (V_l32 : cr_Hp) : Option ((Int32 × cr_Hp) ⊕ cr_Hp) :=
  cr_bd (f_L_low (r44 >>> ((7 : Int32) &&& 31)) (4 : Int32)) (fun (r98 : Int32) => if r98 = 0 then (cr_bd (f_L_low r56 (31 : Int32)) (fun (r108 : Int32) => f_L_law_b124 nL xs x6_32 r44 r56 z0_90 r108 V_l32)) else (cr_bd (f_L_low r56 (9 : Int32)) (fun (r120 : Int32) => f_L_law_b124 nL xs x6_32 r44 r56 z0_90 ((8 : Int32) + r120) V_l32)))
set_option maxRecDepth 100000 in
set_option maxHeartbeats 4000000 in
theorem t_L_law_b90 {p : Program} {l : Launch} {e : Env} {s : State} {m : MethodId} {args : Array Value} {below : List Frame} {meth : Method} {c : Code} {w : cr_Wd} {Q : State → Prop} (X : cr_LX w p s m args meth c) (x6_32 : Int32) (r44 : Int32) (r56 : Int32) (z0_90 : Int32) (V_l32 : cr_Hp)  (x : (Int32 × cr_Hp) ⊕ cr_Hp) (h : f_L_law_b90 (cr_zL w) (cr_zx w) x6_32 r44 r56 z0_90 V_l32 = some x) (kl : ∀ (x6_32 : Int32) (V_l32 : cr_Hp), x = .inl (x6_32, V_l32) → cr_J w 19 p l e room_1 s m args below meth c (cr_ce V_l32) (cr_sl V_l32) Q V_l32 32 [(0, .ref (cr_zb w)), (1, .ref (w.1 152)), (2, .ref (w.1 159)), (3, .ref (w.1 160)), (4, .ref (w.1 161)), (5, .ref (w.1 162)), (6, .int x6_32)] []) (kr1175 : ∀ (V_e32_1175 : cr_Hp), x = .inr V_e32_1175 → cr_J w 19 p l e room_1 s m args below meth c (cr_ce V_e32_1175) (cr_sl V_e32_1175) Q V_e32_1175 1175 [] []) : cr_J w 19 p l e room_1 s m args below meth c (cr_ce V_l32) (cr_sl V_l32) Q V_l32 90 [(0, .ref (cr_zb w)), (1, .ref (w.1 152)), (2, .ref (w.1 159)), (3, .ref (w.1 160)), (4, .ref (w.1 161)), (5, .ref (w.1 162)), (6, .int x6_32), (7, .int r44), (8, .int r56)] [.int z0_90] := by
  unfold f_L_law_b90 at h
  refine jr_istore X.c (lv2 := [(9, .int z0_90), (0, .ref (cr_zb w)), (1, .ref (w.1 152)), (2, .ref (w.1 159)), (3, .ref (w.1 160)), (4, .ref (w.1 161)), (5, .ref (w.1 162)), (6, .int x6_32), (7, .int r44), (8, .int r56)]) dL_law_90 (by decide) rfl ?_
  refine jr_iload X.c dL_law_92 8 rfl ?_
  refine jr_bipush X.c (v := (7 : Int32)) dL_law_94 (by decide) ?_
  refine jr_ishr X.c dL_law_96 ?_
  refine jr_iconst X.c (v := (4 : Int32)) dL_law_97 (by decide) ?_
  obtain ⟨r98, hr98, h⟩ := cr_bd_s h
  refine jc_Si X.c (As := [.int (r44 >>> ((7 : Int32) &&& 31)), .int (4 : Int32)]) (V1 := V_l32) 2 (m_L_low l w V_l32 (r44 >>> ((7 : Int32) &&& 31)) (4 : Int32)  r98 hr98) ⟨rfl, rfl⟩ ml_L_58 st_L_low in_L cd_L_low hd_L_low ⟨Nat.le_of_ble_eq_true rfl, Nat.le_of_ble_eq_true rfl⟩ (cr_ce_le _) rfl (Nat.le_of_ble_eq_true rfl) rfl dL_law_98 ?_
  refine jr_if_ne X.c 114 dL_law_101 (by decide) (fun q101 => ?_) (fun q101 => ?_)
  · replace h := cr_if_f q101 h
    refine jr_bipush X.c (v := (8 : Int32)) dL_law_114 (by decide) ?_
    refine jr_iload X.c dL_law_116 9 rfl ?_
    refine jr_bipush X.c (v := (9 : Int32)) dL_law_118 (by decide) ?_
    obtain ⟨r120, hr120, h⟩ := cr_bd_s h
    refine jc_Si X.c (As := [.int r56, .int (9 : Int32)]) (V1 := V_l32) 2 (m_L_low l w V_l32 r56 (9 : Int32)  r120 hr120) ⟨rfl, rfl⟩ ml_L_58 st_L_low in_L cd_L_low hd_L_low ⟨Nat.le_of_ble_eq_true rfl, Nat.le_of_ble_eq_true rfl⟩ (cr_ce_le _) rfl (Nat.le_of_ble_eq_true rfl) rfl dL_law_120 ?_
    refine jr_iadd X.c dL_law_123 ?_
    refine jr_sub [1, 2, 3, 4, 5, 6, 7, 8, 9, 0] rfl ?_
    exact t_L_law_b124 X x6_32 r44 r56 z0_90 ((8 : Int32) + r120) V_l32  x h kl kr1175
  · replace h := cr_if_t q101 h
    refine jr_iload X.c dL_law_104 9 rfl ?_
    refine jr_bipush X.c (v := (31 : Int32)) dL_law_106 (by decide) ?_
    obtain ⟨r108, hr108, h⟩ := cr_bd_s h
    refine jc_Si X.c (As := [.int r56, .int (31 : Int32)]) (V1 := V_l32) 2 (m_L_low l w V_l32 r56 (31 : Int32)  r108 hr108) ⟨rfl, rfl⟩ ml_L_58 st_L_low in_L cd_L_low hd_L_low ⟨Nat.le_of_ble_eq_true rfl, Nat.le_of_ble_eq_true rfl⟩ (cr_ce_le _) rfl (Nat.le_of_ble_eq_true rfl) rfl dL_law_108 ?_
    refine jr_goto X.c 124 dL_law_111 (by decide) ?_
    refine jr_sub [1, 2, 3, 4, 5, 6, 7, 8, 9, 0] rfl ?_
    exact t_L_law_b124 X x6_32 r44 r56 z0_90 r108 V_l32  x h kl kr1175
def f_L_law_l32 (nL : Nat) (xs : Nat → Int32) (x6_32 : Int32) (V_l32 : cr_Hp) : Option ((Int32 × cr_Hp) ⊕ cr_Hp) :=
  if (40 : Int32) ≤ x6_32 then (some (.inr V_l32)) else (cr_bd (f_L_cell nL xs ((2 : Int32) * x6_32)) (fun (r44 : Int32) => cr_bd (f_L_cell nL xs (((2 : Int32) * x6_32) + (1 : Int32))) (fun (r56 : Int32) => if (6 : Int32) ≤ x6_32 then (if (8 : Int32) ≤ x6_32 then (cr_bd (f_L_low r44 (14 : Int32)) (fun (r87 : Int32) => f_L_law_b90 nL xs x6_32 r44 r56 r87 V_l32)) else (f_L_law_b90 nL xs x6_32 r44 r56 (1 : Int32) V_l32)) else (f_L_law_b90 nL xs x6_32 r44 r56 (0 : Int32) V_l32))))
set_option maxRecDepth 100000 in
set_option maxHeartbeats 4000000 in
theorem t_L_law_l32 {p : Program} {l : Launch} {e : Env} {s : State} {m : MethodId} {args : Array Value} {below : List Frame} {meth : Method} {c : Code} {w : cr_Wd} {Q : State → Prop} (X : cr_LX w p s m args meth c) (x6_32 : Int32) (V_l32 : cr_Hp)  (x : (Int32 × cr_Hp) ⊕ cr_Hp) (h : f_L_law_l32 (cr_zL w) (cr_zx w) x6_32 V_l32 = some x) (kl : ∀ (x6_32 : Int32) (V_l32 : cr_Hp), x = .inl (x6_32, V_l32) → cr_J w 19 p l e room_1 s m args below meth c (cr_ce V_l32) (cr_sl V_l32) Q V_l32 32 [(0, .ref (cr_zb w)), (1, .ref (w.1 152)), (2, .ref (w.1 159)), (3, .ref (w.1 160)), (4, .ref (w.1 161)), (5, .ref (w.1 162)), (6, .int x6_32)] []) (kr1175 : ∀ (V_e32_1175 : cr_Hp), x = .inr V_e32_1175 → cr_J w 19 p l e room_1 s m args below meth c (cr_ce V_e32_1175) (cr_sl V_e32_1175) Q V_e32_1175 1175 [] []) : cr_J w 19 p l e room_1 s m args below meth c (cr_ce V_l32) (cr_sl V_l32) Q V_l32 32 [(0, .ref (cr_zb w)), (1, .ref (w.1 152)), (2, .ref (w.1 159)), (3, .ref (w.1 160)), (4, .ref (w.1 161)), (5, .ref (w.1 162)), (6, .int x6_32)] [] := by
  unfold f_L_law_l32 at h
  refine jr_iload X.c dL_law_32 6 rfl ?_
  refine jr_bipush X.c (v := (40 : Int32)) dL_law_34 (by decide) ?_
  refine jr_icmp_ge X.c 1175 dL_law_36 (by decide) (fun q36 => ?_) (fun q36 => ?_)
  · replace h := cr_if_t q36 h
    cases h
    refine jr_sub [] rfl ?_
    exact kr1175 V_l32 rfl
  · replace h := cr_if_f q36 h
    refine jr_aload_n X.c dL_law_39 rfl 0 rfl ?_
    refine jr_iconst X.c (v := (2 : Int32)) dL_law_40 (by decide) ?_
    refine jr_iload X.c dL_law_41 6 rfl ?_
    refine jr_imul X.c dL_law_43 ?_
    obtain ⟨r44, hr44, h⟩ := cr_bd_s h
    refine jc_Si X.c (As := [.ref (cr_zb w), .int ((2 : Int32) * x6_32)]) (V1 := V_l32) 2 (m_L_cell l w V_l32 ((2 : Int32) * x6_32)  r44 hr44) ⟨rfl, rfl⟩ ml_L_62 st_L_cell in_L cd_L_cell hd_L_cell ⟨Nat.le_of_ble_eq_true rfl, Nat.le_of_ble_eq_true rfl⟩ (cr_ce_le _) rfl (Nat.le_of_ble_eq_true rfl) rfl dL_law_44 ?_
    refine jr_istore X.c (lv2 := [(7, .int r44), (0, .ref (cr_zb w)), (1, .ref (w.1 152)), (2, .ref (w.1 159)), (3, .ref (w.1 160)), (4, .ref (w.1 161)), (5, .ref (w.1 162)), (6, .int x6_32)]) dL_law_47 (by decide) rfl ?_
    refine jr_aload_n X.c dL_law_49 rfl 1 rfl ?_
    refine jr_iconst X.c (v := (2 : Int32)) dL_law_50 (by decide) ?_
    refine jr_iload X.c dL_law_51 7 rfl ?_
    refine jr_imul X.c dL_law_53 ?_
    refine jr_iconst X.c (v := (1 : Int32)) dL_law_54 (by decide) ?_
    refine jr_iadd X.c dL_law_55 ?_
    obtain ⟨r56, hr56, h⟩ := cr_bd_s h
    refine jc_Si X.c (As := [.ref (cr_zb w), .int (((2 : Int32) * x6_32) + (1 : Int32))]) (V1 := V_l32) 2 (m_L_cell l w V_l32 (((2 : Int32) * x6_32) + (1 : Int32))  r56 hr56) ⟨rfl, rfl⟩ ml_L_62 st_L_cell in_L cd_L_cell hd_L_cell ⟨Nat.le_of_ble_eq_true rfl, Nat.le_of_ble_eq_true rfl⟩ (cr_ce_le _) rfl (Nat.le_of_ble_eq_true rfl) rfl dL_law_56 ?_
    refine jr_istore X.c (lv2 := [(8, .int r56), (7, .int r44), (0, .ref (cr_zb w)), (1, .ref (w.1 152)), (2, .ref (w.1 159)), (3, .ref (w.1 160)), (4, .ref (w.1 161)), (5, .ref (w.1 162)), (6, .int x6_32)]) dL_law_59 (by decide) rfl ?_
    refine jr_iload X.c dL_law_61 8 rfl ?_
    refine jr_bipush X.c (v := (6 : Int32)) dL_law_63 (by decide) ?_
    refine jr_icmp_ge X.c 72 dL_law_65 (by decide) (fun q65 => ?_) (fun q65 => ?_)
    · replace h := cr_if_t q65 h
      refine jr_iload X.c dL_law_72 8 rfl ?_
      refine jr_bipush X.c (v := (8 : Int32)) dL_law_74 (by decide) ?_
      refine jr_icmp_ge X.c 83 dL_law_76 (by decide) (fun q76 => ?_) (fun q76 => ?_)
      · replace h := cr_if_t q76 h
        refine jr_iload X.c dL_law_83 1 rfl ?_
        refine jr_bipush X.c (v := (14 : Int32)) dL_law_85 (by decide) ?_
        obtain ⟨r87, hr87, h⟩ := cr_bd_s h
        refine jc_Si X.c (As := [.int r44, .int (14 : Int32)]) (V1 := V_l32) 2 (m_L_low l w V_l32 r44 (14 : Int32)  r87 hr87) ⟨rfl, rfl⟩ ml_L_58 st_L_low in_L cd_L_low hd_L_low ⟨Nat.le_of_ble_eq_true rfl, Nat.le_of_ble_eq_true rfl⟩ (cr_ce_le _) rfl (Nat.le_of_ble_eq_true rfl) rfl dL_law_87 ?_
        refine jr_sub [2, 3, 4, 5, 6, 7, 8, 1, 0] rfl ?_
        exact t_L_law_b90 X x6_32 r44 r56 r87 V_l32  x h kl kr1175
      · replace h := cr_if_f q76 h
        refine jr_iconst X.c (v := (1 : Int32)) dL_law_79 (by decide) ?_
        refine jr_goto X.c 90 dL_law_80 (by decide) ?_
        refine jr_sub [2, 3, 4, 5, 6, 7, 8, 1, 0] rfl ?_
        exact t_L_law_b90 X x6_32 r44 r56 (1 : Int32) V_l32  x h kl kr1175
    · replace h := cr_if_f q65 h
      refine jr_iconst X.c (v := (0 : Int32)) dL_law_68 (by decide) ?_
      refine jr_goto X.c 90 dL_law_69 (by decide) ?_
      refine jr_sub [2, 3, 4, 5, 6, 7, 8, 1, 0] rfl ?_
      exact t_L_law_b90 X x6_32 r44 r56 (0 : Int32) V_l32  x h kl kr1175
