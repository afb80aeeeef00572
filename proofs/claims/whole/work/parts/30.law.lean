def f_L_law_l18 (nL : Nat) (xs : Nat → Int32) (x3_18 : Int32) (V_l18 : cr_Hp) : Option ((Int32 × cr_Hp) ⊕ cr_Hp) :=
  if ((Int32.ofNat nL) - (5 : Int32)) < x3_18 then (some (.inr V_l18)) else (cr_gd (cr_ix x3_18 nL) (if ((xs x3_18.toNatClampNeg) &&& (31 : Int32)) = (0 : Int32) then (cr_gd (cr_ix (x3_18 + (1 : Int32)) nL) (cr_gd (cr_ix (x3_18 + (2 : Int32)) nL) (cr_gd (cr_ix (x3_18 + (3 : Int32)) nL) (cr_gd (cr_ix (x3_18 + (4 : Int32)) nL) (cr_b2 (f_X7_putMarble (xs (x3_18 + (1 : Int32)).toNatClampNeg) (xs (x3_18 + (2 : Int32)).toNatClampNeg) (xs (x3_18 + (3 : Int32)).toNatClampNeg) (xs (x3_18 + (4 : Int32)).toNatClampNeg) V_l18) (fun (r153 : Int32) (V153 : cr_Hp) => cr_gd (cr_ix (x3_18 + (1 : Int32)) nL) (cr_gd (cr_ix (x3_18 + (2 : Int32)) nL) (cr_gd (cr_ix (x3_18 + (3 : Int32)) nL) (cr_gd (cr_ix (x3_18 + (4 : Int32)) nL) (cr_b2 (f_X8_putMarble (xs (x3_18 + (1 : Int32)).toNatClampNeg) (xs (x3_18 + (2 : Int32)).toNatClampNeg) (xs (x3_18 + (3 : Int32)).toNatClampNeg) (xs (x3_18 + (4 : Int32)).toNatClampNeg) V153) (fun (r177 : Int32) (V177 : cr_Hp) => if r153 = r177 then (some (.inl ((x3_18 + (5 : Int32)), V177))) else (none)))))))))))) else (if ((xs x3_18.toNatClampNeg) &&& (31 : Int32)) = (1 : Int32) then (cr_gd (cr_ix (x3_18 + (1 : Int32)) nL) (cr_gd (cr_ix (x3_18 + (2 : Int32)) nL) (cr_gd (cr_ix (x3_18 + (3 : Int32)) nL) (cr_b2 (f_X7_drawRing (xs (x3_18 + (1 : Int32)).toNatClampNeg) (xs (x3_18 + (2 : Int32)).toNatClampNeg) (xs (x3_18 + (3 : Int32)).toNatClampNeg) V_l18) (fun (r201 : Int32) (V201 : cr_Hp) => cr_gd (cr_ix (x3_18 + (1 : Int32)) nL) (cr_gd (cr_ix (x3_18 + (2 : Int32)) nL) (cr_gd (cr_ix (x3_18 + (3 : Int32)) nL) (cr_b2 (f_X8_drawRing (xs (x3_18 + (1 : Int32)).toNatClampNeg) (xs (x3_18 + (2 : Int32)).toNatClampNeg) (xs (x3_18 + (3 : Int32)).toNatClampNeg) V201) (fun (r220 : Int32) (V220 : cr_Hp) => if r201 = r220 then (some (.inl ((x3_18 + (5 : Int32)), V220))) else (none)))))))))) else (if ((xs x3_18.toNatClampNeg) &&& (31 : Int32)) = (2 : Int32) then (cr_gd (cr_ix (x3_18 + (1 : Int32)) nL) (cr_gd (cr_ix (x3_18 + (2 : Int32)) nL) (cr_gd (cr_ix (x3_18 + (3 : Int32)) nL) (cr_b2 (f_X7_move (xs (x3_18 + (1 : Int32)).toNatClampNeg) (xs (x3_18 + (2 : Int32)).toNatClampNeg) (xs (x3_18 + (3 : Int32)).toNatClampNeg) V_l18) (fun (r244 : Int32) (V244 : cr_Hp) => cr_gd (cr_ix (x3_18 + (1 : Int32)) nL) (cr_gd (cr_ix (x3_18 + (2 : Int32)) nL) (cr_gd (cr_ix (x3_18 + (3 : Int32)) nL) (cr_b2 (f_X8_move (xs (x3_18 + (1 : Int32)).toNatClampNeg) (xs (x3_18 + (2 : Int32)).toNatClampNeg) (xs (x3_18 + (3 : Int32)).toNatClampNeg) V244) (fun (r263 : Int32) (V263 : cr_Hp) => if r244 = r263 then (some (.inl ((x3_18 + (5 : Int32)), V263))) else (none)))))))))) else (if ((xs x3_18.toNatClampNeg) &&& (31 : Int32)) = (3 : Int32) then (cr_b2 (f_X7_clear  V_l18) (fun (r272 : Int32) (V272 : cr_Hp) => cr_b2 (f_X8_clear  V272) (fun (r276 : Int32) (V276 : cr_Hp) => if r272 = r276 then (some (.inl ((x3_18 + (5 : Int32)), V276))) else (none)))) else (if ((xs x3_18.toNatClampNeg) &&& (31 : Int32)) = (4 : Int32) then (cr_gd (cr_ix (x3_18 + (1 : Int32)) nL) (cr_gd (cr_ix (x3_18 + (2 : Int32)) nL) (cr_gd (cr_ix (x3_18 + (3 : Int32)) nL) (cr_b2 (f_X7_flick (xs (x3_18 + (1 : Int32)).toNatClampNeg) (xs (x3_18 + (2 : Int32)).toNatClampNeg) (xs (x3_18 + (3 : Int32)).toNatClampNeg) V_l18) (fun (r300 : Int32) (V300 : cr_Hp) => cr_gd (cr_ix (x3_18 + (1 : Int32)) nL) (cr_gd (cr_ix (x3_18 + (2 : Int32)) nL) (cr_gd (cr_ix (x3_18 + (3 : Int32)) nL) (cr_b2 (f_X8_flick (xs (x3_18 + (1 : Int32)).toNatClampNeg) (xs (x3_18 + (2 : Int32)).toNatClampNeg) (xs (x3_18 + (3 : Int32)).toNatClampNeg) V300) (fun (r319 : Int32) (V319 : cr_Hp) => if r300 = r319 then (some (.inl ((x3_18 + (5 : Int32)), V319))) else (none)))))))))) else (if ((xs x3_18.toNatClampNeg) &&& (31 : Int32)) = (5 : Int32) then (cr_b2 (f_X7_pass  V_l18) (fun (r328 : Int32) (V328 : cr_Hp) => cr_b2 (f_X8_pass  V328) (fun (r332 : Int32) (V332 : cr_Hp) => if r328 = r332 then (some (.inl ((x3_18 + (5 : Int32)), V332))) else (none)))) else (if ((xs x3_18.toNatClampNeg) &&& (31 : Int32)) = (6 : Int32) then (cr_gd (cr_ix (x3_18 + (1 : Int32)) nL) (cr_bd (f_X7_count (xs (x3_18 + (1 : Int32)).toNatClampNeg) V_l18) (fun (r346 : Int32) => cr_gd (cr_ix (x3_18 + (1 : Int32)) nL) (cr_bd (f_X8_count (xs (x3_18 + (1 : Int32)).toNatClampNeg) V_l18) (fun (r355 : Int32) => if r346 = r355 then (some (.inl ((x3_18 + (5 : Int32)), V_l18))) else (none)))))) else (if ((xs x3_18.toNatClampNeg) &&& (31 : Int32)) = (7 : Int32) then (cr_gd (cr_ix (x3_18 + (1 : Int32)) nL) (cr_gd (cr_ix (x3_18 + (2 : Int32)) nL) (cr_bd (f_X7_marble (xs (x3_18 + (1 : Int32)).toNatClampNeg) (xs (x3_18 + (2 : Int32)).toNatClampNeg) V_l18) (fun (r374 : Int32) => cr_gd (cr_ix (x3_18 + (1 : Int32)) nL) (cr_gd (cr_ix (x3_18 + (2 : Int32)) nL) (cr_bd (f_X8_marble (xs (x3_18 + (1 : Int32)).toNatClampNeg) (xs (x3_18 + (2 : Int32)).toNatClampNeg) V_l18) (fun (r388 : Int32) => if r374 = r388 then (some (.inl ((x3_18 + (5 : Int32)), V_l18))) else (none)))))))) else (if ((xs x3_18.toNatClampNeg) &&& (31 : Int32)) = (8 : Int32) then (cr_gd (cr_ix (x3_18 + (1 : Int32)) nL) (cr_gd (cr_ix (x3_18 + (2 : Int32)) nL) (cr_bd (f_X7_ring (xs (x3_18 + (1 : Int32)).toNatClampNeg) (xs (x3_18 + (2 : Int32)).toNatClampNeg) V_l18) (fun (r407 : Int32) => cr_gd (cr_ix (x3_18 + (1 : Int32)) nL) (cr_gd (cr_ix (x3_18 + (2 : Int32)) nL) (cr_bd (f_X8_ring (xs (x3_18 + (1 : Int32)).toNatClampNeg) (xs (x3_18 + (2 : Int32)).toNatClampNeg) V_l18) (fun (r421 : Int32) => if r407 = r421 then (some (.inl ((x3_18 + (5 : Int32)), V_l18))) else (none)))))))) else (if ((xs x3_18.toNatClampNeg) &&& (31 : Int32)) = (9 : Int32) then (cr_gd (cr_ix (x3_18 + (1 : Int32)) nL) (cr_gd (cr_ix (x3_18 + (2 : Int32)) nL) (cr_bd (f_X7_at (xs (x3_18 + (1 : Int32)).toNatClampNeg) (xs (x3_18 + (2 : Int32)).toNatClampNeg) V_l18) (fun (r440 : Int32) => cr_gd (cr_ix (x3_18 + (1 : Int32)) nL) (cr_gd (cr_ix (x3_18 + (2 : Int32)) nL) (cr_bd (f_X8_at (xs (x3_18 + (1 : Int32)).toNatClampNeg) (xs (x3_18 + (2 : Int32)).toNatClampNeg) V_l18) (fun (r454 : Int32) => if r440 = r454 then (some (.inl ((x3_18 + (5 : Int32)), V_l18))) else (none)))))))) else (if ((xs x3_18.toNatClampNeg) &&& (31 : Int32)) = (10 : Int32) then (cr_gd (cr_ix (x3_18 + (1 : Int32)) nL) (cr_bd (f_X7_score (xs (x3_18 + (1 : Int32)).toNatClampNeg) V_l18) (fun (r468 : Int32) => cr_gd (cr_ix (x3_18 + (1 : Int32)) nL) (cr_bd (f_X8_score (xs (x3_18 + (1 : Int32)).toNatClampNeg) V_l18) (fun (r477 : Int32) => if r468 = r477 then (some (.inl ((x3_18 + (5 : Int32)), V_l18))) else (none)))))) else (if ((xs x3_18.toNatClampNeg) &&& (31 : Int32)) = (11 : Int32) then (cr_bd (f_X7_leader  V_l18) (fun (r486 : Int32) => cr_bd (f_X8_leader  V_l18) (fun (r490 : Int32) => if r486 = r490 then (some (.inl ((x3_18 + (5 : Int32)), V_l18))) else (none)))) else (if ((xs x3_18.toNatClampNeg) &&& (31 : Int32)) = (12 : Int32) then (cr_gd (cr_ix (x3_18 + (1 : Int32)) nL) (cr_gd (cr_ix (x3_18 + (2 : Int32)) nL) (cr_gd (cr_ix (x3_18 + (3 : Int32)) nL) (cr_gd (cr_ix (x3_18 + (4 : Int32)) nL) (cr_b2 (f_X7_ifFlicked (xs (x3_18 + (1 : Int32)).toNatClampNeg) (xs (x3_18 + (2 : Int32)).toNatClampNeg) (xs (x3_18 + (3 : Int32)).toNatClampNeg) (xs (x3_18 + (4 : Int32)).toNatClampNeg) V_l18) (fun (r519 : Int32) (V519 : cr_Hp) => cr_gd (cr_ix (x3_18 + (1 : Int32)) nL) (cr_gd (cr_ix (x3_18 + (2 : Int32)) nL) (cr_gd (cr_ix (x3_18 + (3 : Int32)) nL) (cr_gd (cr_ix (x3_18 + (4 : Int32)) nL) (cr_b2 (f_X8_ifFlicked (xs (x3_18 + (1 : Int32)).toNatClampNeg) (xs (x3_18 + (2 : Int32)).toNatClampNeg) (xs (x3_18 + (3 : Int32)).toNatClampNeg) (xs (x3_18 + (4 : Int32)).toNatClampNeg) V519) (fun (r543 : Int32) (V543 : cr_Hp) => if r519 = r543 then (some (.inl ((x3_18 + (5 : Int32)), V543))) else (none)))))))))))) else (if ((xs x3_18.toNatClampNeg) &&& (31 : Int32)) = (13 : Int32) then (cr_gd (cr_ix (x3_18 + (1 : Int32)) nL) (cr_b2 (f_X7_bestFlick (xs (x3_18 + (1 : Int32)).toNatClampNeg) V_l18) (fun (r557 : Int32) (V557 : cr_Hp) => cr_gd (cr_ix (x3_18 + (1 : Int32)) nL) (cr_b2 (f_X8_bestFlick (xs (x3_18 + (1 : Int32)).toNatClampNeg) V557) (fun (r566 : Int32) (V566 : cr_Hp) => if r557 = r566 then (some (.inl ((x3_18 + (5 : Int32)), V566))) else (none)))))) else (if ((xs x3_18.toNatClampNeg) &&& (31 : Int32)) = (14 : Int32) then (cr_gd (cr_ix (x3_18 + (1 : Int32)) nL) (cr_bd (f_X7_wayOut (xs (x3_18 + (1 : Int32)).toNatClampNeg) V_l18) (fun (r580 : Int32) => cr_gd (cr_ix (x3_18 + (1 : Int32)) nL) (cr_bd (f_X8_wayOut (xs (x3_18 + (1 : Int32)).toNatClampNeg) V_l18) (fun (r589 : Int32) => if r580 = r589 then (some (.inl ((x3_18 + (5 : Int32)), V_l18))) else (none)))))) else (if ((xs x3_18.toNatClampNeg) &&& (31 : Int32)) = (15 : Int32) then (cr_gd (cr_ix (x3_18 + (1 : Int32)) nL) (cr_b2 (f_X7_type (xs (x3_18 + (1 : Int32)).toNatClampNeg) V_l18) (fun (r603 : Int32) (V603 : cr_Hp) => cr_gd (cr_ix (x3_18 + (1 : Int32)) nL) (cr_b2 (f_X8_type (xs (x3_18 + (1 : Int32)).toNatClampNeg) V603) (fun (r612 : Int32) (V612 : cr_Hp) => if r603 = r612 then (some (.inl ((x3_18 + (5 : Int32)), V612))) else (none)))))) else (if ((xs x3_18.toNatClampNeg) &&& (31 : Int32)) = (16 : Int32) then (cr_b2 (f_X7_clearText  V_l18) (fun (r621 : Int32) (V621 : cr_Hp) => cr_b2 (f_X8_clearText  V621) (fun (r625 : Int32) (V625 : cr_Hp) => if r621 = r625 then (some (.inl ((x3_18 + (5 : Int32)), V625))) else (none)))) else (if ((xs x3_18.toNatClampNeg) &&& (31 : Int32)) = (17 : Int32) then (cr_b2 (f_X7_syntaxError  V_l18) (fun (r634 : Int32) (V634 : cr_Hp) => cr_b2 (f_X8_syntaxError  V634) (fun (r638 : Int32) (V638 : cr_Hp) => if r634 = r638 then (some (.inl ((x3_18 + (5 : Int32)), V638))) else (none)))) else (if ((xs x3_18.toNatClampNeg) &&& (31 : Int32)) = (18 : Int32) then (cr_b2 (f_X7_readItems  V_l18) (fun (r647 : Int32) (V647 : cr_Hp) => cr_b2 (f_X8_readItems  V647) (fun (r651 : Int32) (V651 : cr_Hp) => if r647 = r651 then (some (.inl ((x3_18 + (5 : Int32)), V651))) else (none)))) else (if ((xs x3_18.toNatClampNeg) &&& (31 : Int32)) = (19 : Int32) then (cr_b2 (f_X7_undo  V_l18) (fun (r660 : Int32) (V660 : cr_Hp) => cr_b2 (f_X8_undo  V660) (fun (r664 : Int32) (V664 : cr_Hp) => if r660 = r664 then (some (.inl ((x3_18 + (5 : Int32)), V664))) else (none)))) else (if ((xs x3_18.toNatClampNeg) &&& (31 : Int32)) = (20 : Int32) then (cr_bd (f_X7_digest  V_l18) (fun (r673 : Int64) => cr_bd (f_X8_digest  V_l18) (fun (r677 : Int64) => if (lg_cmp r673 r677) = 0 then (some (.inl ((x3_18 + (5 : Int32)), V_l18))) else (none)))) else (some (.inl ((x3_18 + (5 : Int32)), V_l18)))))))))))))))))))))))))
set_option maxRecDepth 100000 in
set_option maxHeartbeats 4000000 in
theorem t_L_law_l18 {p : Program} {l : Launch} {e : Env} {s : State} {m : MethodId} {args : Array Value} {below : List Frame} {meth : Method} {c : Code} {w : cr_Wd} {Q : State → Prop} {bs nL : Nat} {xs : Nat → Int32} (X : cr_LX w p s m args meth c bs nL xs) (x3_18 : Int32) (V_l18 : cr_Hp)  (x : (Int32 × cr_Hp) ⊕ cr_Hp) (h : f_L_law_l18 nL xs x3_18 V_l18 = some x) (kl : ∀ (x3_18 : Int32) (V_l18 : cr_Hp), x = .inl (x3_18, V_l18) → cr_J w 4 p l e room_1 s m args below meth c 600000 7302250 Q V_l18 18 [(0, .ref bs), (1, .ref (w.1 152)), (2, .ref (w.1 159)), (3, .int x3_18)] []) (kr692 : ∀ (V_e18_692 : cr_Hp), x = .inr V_e18_692 → cr_J w 4 p l e room_1 s m args below meth c 600000 7302250 Q V_e18_692 692 [] []) : cr_J w 4 p l e room_1 s m args below meth c 600000 7302250 Q V_l18 18 [(0, .ref bs), (1, .ref (w.1 152)), (2, .ref (w.1 159)), (3, .int x3_18)] [] := by
  unfold f_L_law_l18 at h
  refine jr_iload_n X.c dL_law_18 rfl 3 rfl ?_
  refine jr_aload_n X.c dL_law_19 rfl 0 rfl ?_
  refine jr_slen X dL_law_20 ?_
  refine jr_iconst X.c (v := (5 : Int32)) dL_law_21 (by decide) ?_
  refine jr_isub X.c dL_law_22 ?_
  refine jr_icmp_gt X.c 692 dL_law_23 (by decide) (fun q23 => ?_) (fun q23 => ?_)
  · replace h := cr_if_t q23 h
    cases h
    refine jr_sub [] rfl ?_
    exact kr692 V_l18 rfl
  · replace h := cr_if_f q23 h
    refine jr_aload_n X.c dL_law_26 rfl 0 rfl ?_
    refine jr_iload_n X.c dL_law_27 rfl 3 rfl ?_
    obtain ⟨hi28, h⟩ := cr_gd_s h
    refine jr_sld X hi28 dL_law_28 ?_
    refine jr_bipush X.c (v := (31 : Int32)) dL_law_29 (by decide) ?_
    refine jr_iand X.c dL_law_31 ?_
    by_cases q32_0 : ((xs x3_18.toNatClampNeg) &&& (31 : Int32)) = (0 : Int32)
    · replace h := cr_if_t q32_0 h
      refine jr_tabI X.c (0 : Int32) q32_0 132 dL_law_32 (by decide) (by decide) (by rfl) (by decide) ?_
      refine jr_aload_n X.c dL_law_132 rfl 1 rfl ?_
      refine jr_aload_n X.c dL_law_133 rfl 0 rfl ?_
      refine jr_iload_n X.c dL_law_134 rfl 3 rfl ?_
      refine jr_iconst X.c (v := (1 : Int32)) dL_law_135 (by decide) ?_
      refine jr_iadd X.c dL_law_136 ?_
      obtain ⟨hi137, h⟩ := cr_gd_s h
      refine jr_sld X hi137 dL_law_137 ?_
      refine jr_aload_n X.c dL_law_138 rfl 0 rfl ?_
      refine jr_iload_n X.c dL_law_139 rfl 3 rfl ?_
      refine jr_iconst X.c (v := (2 : Int32)) dL_law_140 (by decide) ?_
      refine jr_iadd X.c dL_law_141 ?_
      obtain ⟨hi142, h⟩ := cr_gd_s h
      refine jr_sld X hi142 dL_law_142 ?_
      refine jr_aload_n X.c dL_law_143 rfl 0 rfl ?_
      refine jr_iload_n X.c dL_law_144 rfl 3 rfl ?_
      refine jr_iconst X.c (v := (3 : Int32)) dL_law_145 (by decide) ?_
      refine jr_iadd X.c dL_law_146 ?_
      obtain ⟨hi147, h⟩ := cr_gd_s h
      refine jr_sld X hi147 dL_law_147 ?_
      refine jr_aload_n X.c dL_law_148 rfl 0 rfl ?_
      refine jr_iload_n X.c dL_law_149 rfl 3 rfl ?_
      refine jr_iconst X.c (v := (4 : Int32)) dL_law_150 (by decide) ?_
      refine jr_iadd X.c dL_law_151 ?_
      obtain ⟨hi152, h⟩ := cr_gd_s h
      refine jr_sld X hi152 dL_law_152 ?_
      obtain ⟨r153, V153, hr153, h⟩ := cr_b2_s h
      refine jc_Vi X.c (As := [.int (xs (x3_18 + (1 : Int32)).toNatClampNeg), .int (xs (x3_18 + (2 : Int32)).toNatClampNeg), .int (xs (x3_18 + (3 : Int32)).toNatClampNeg), .int (xs (x3_18 + (4 : Int32)).toNatClampNeg)]) (V1 := V153) (C := RX7) (T := TX7) (N := 5) (ci := 7) 4 (m_X7_putMarble l w V_l18 (xs (x3_18 + (1 : Int32)).toNatClampNeg) (xs (x3_18 + (2 : Int32)).toNatClampNeg) (xs (x3_18 + (3 : Int32)).toNatClampNeg) (xs (x3_18 + (4 : Int32)).toNatClampNeg)  (r153, V153) hr153) ⟨rfl, rfl⟩ ml_L_13 im_X7_putMarble sl_X7_putMarble in_X7 cd_X7_putMarble hd_X7_putMarble ⟨Nat.le_of_ble_eq_true rfl, Nat.le_of_ble_eq_true rfl⟩ ⟨Nat.le_of_ble_eq_true rfl, Nat.le_of_ble_eq_true rfl⟩ rfl (Nat.le_of_ble_eq_true rfl) (by decide) ((cr_row_152 w) _) rfl rfl dL_law_153 ?_
      refine jr_aload_n X.c dL_law_156 rfl 2 rfl ?_
      refine jr_aload_n X.c dL_law_157 rfl 0 rfl ?_
      refine jr_iload_n X.c dL_law_158 rfl 3 rfl ?_
      refine jr_iconst X.c (v := (1 : Int32)) dL_law_159 (by decide) ?_
      refine jr_iadd X.c dL_law_160 ?_
      obtain ⟨hi161, h⟩ := cr_gd_s h
      refine jr_sld X hi161 dL_law_161 ?_
      refine jr_aload_n X.c dL_law_162 rfl 0 rfl ?_
      refine jr_iload_n X.c dL_law_163 rfl 3 rfl ?_
      refine jr_iconst X.c (v := (2 : Int32)) dL_law_164 (by decide) ?_
      refine jr_iadd X.c dL_law_165 ?_
      obtain ⟨hi166, h⟩ := cr_gd_s h
      refine jr_sld X hi166 dL_law_166 ?_
      refine jr_aload_n X.c dL_law_167 rfl 0 rfl ?_
      refine jr_iload_n X.c dL_law_168 rfl 3 rfl ?_
      refine jr_iconst X.c (v := (3 : Int32)) dL_law_169 (by decide) ?_
      refine jr_iadd X.c dL_law_170 ?_
      obtain ⟨hi171, h⟩ := cr_gd_s h
      refine jr_sld X hi171 dL_law_171 ?_
      refine jr_aload_n X.c dL_law_172 rfl 0 rfl ?_
      refine jr_iload_n X.c dL_law_173 rfl 3 rfl ?_
      refine jr_iconst X.c (v := (4 : Int32)) dL_law_174 (by decide) ?_
      refine jr_iadd X.c dL_law_175 ?_
      obtain ⟨hi176, h⟩ := cr_gd_s h
      refine jr_sld X hi176 dL_law_176 ?_
      obtain ⟨r177, V177, hr177, h⟩ := cr_b2_s h
      refine jc_Vi X.c (As := [.int (xs (x3_18 + (1 : Int32)).toNatClampNeg), .int (xs (x3_18 + (2 : Int32)).toNatClampNeg), .int (xs (x3_18 + (3 : Int32)).toNatClampNeg), .int (xs (x3_18 + (4 : Int32)).toNatClampNeg)]) (V1 := V177) (C := RX8) (T := TX8) (N := 22) (ci := 8) 4 (m_X8_putMarble l w V153 (xs (x3_18 + (1 : Int32)).toNatClampNeg) (xs (x3_18 + (2 : Int32)).toNatClampNeg) (xs (x3_18 + (3 : Int32)).toNatClampNeg) (xs (x3_18 + (4 : Int32)).toNatClampNeg)  (r177, V177) hr177) ⟨rfl, rfl⟩ ml_L_17 im_X8_putMarble sl_X8_putMarble in_X8 cd_X8_putMarble hd_X8_putMarble ⟨Nat.le_of_ble_eq_true rfl, Nat.le_of_ble_eq_true rfl⟩ ⟨Nat.le_of_ble_eq_true rfl, Nat.le_of_ble_eq_true rfl⟩ rfl (Nat.le_of_ble_eq_true rfl) (by decide) ((cr_row_159 w) _) rfl rfl dL_law_177 ?_
      refine jr_icmp_eq X.c 686 dL_law_180 (by decide) (fun q180 => ?_) (fun q180 => ?_)
      · replace h := cr_if_t q180 h
        refine jr_iinc X.c (v := (x3_18 + (5 : Int32))) (lv2 := [(3, .int (x3_18 + (5 : Int32))), (0, .ref bs), (1, .ref (w.1 152)), (2, .ref (w.1 159))]) dL_law_686 3 rfl (by rfl) (by decide) rfl ?_
        refine jr_goto X.c 18 dL_law_689 (by decide) ?_
        cases h
        refine jr_sub [1, 2, 3, 0] rfl ?_
        exact kl (x3_18 + (5 : Int32)) V177 rfl
      · replace h := cr_if_f q180 h
        cases h
    replace h := cr_if_f q32_0 h
    by_cases q32_1 : ((xs x3_18.toNatClampNeg) &&& (31 : Int32)) = (1 : Int32)
    · replace h := cr_if_t q32_1 h
      refine jr_tabI X.c (1 : Int32) q32_1 185 dL_law_32 (by decide) (by decide) (by rfl) (by decide) ?_
      refine jr_aload_n X.c dL_law_185 rfl 1 rfl ?_
      refine jr_aload_n X.c dL_law_186 rfl 0 rfl ?_
      refine jr_iload_n X.c dL_law_187 rfl 3 rfl ?_
      refine jr_iconst X.c (v := (1 : Int32)) dL_law_188 (by decide) ?_
      refine jr_iadd X.c dL_law_189 ?_
      obtain ⟨hi190, h⟩ := cr_gd_s h
      refine jr_sld X hi190 dL_law_190 ?_
      refine jr_aload_n X.c dL_law_191 rfl 0 rfl ?_
      refine jr_iload_n X.c dL_law_192 rfl 3 rfl ?_
      refine jr_iconst X.c (v := (2 : Int32)) dL_law_193 (by decide) ?_
      refine jr_iadd X.c dL_law_194 ?_
      obtain ⟨hi195, h⟩ := cr_gd_s h
      refine jr_sld X hi195 dL_law_195 ?_
      refine jr_aload_n X.c dL_law_196 rfl 0 rfl ?_
      refine jr_iload_n X.c dL_law_197 rfl 3 rfl ?_
      refine jr_iconst X.c (v := (3 : Int32)) dL_law_198 (by decide) ?_
      refine jr_iadd X.c dL_law_199 ?_
      obtain ⟨hi200, h⟩ := cr_gd_s h
      refine jr_sld X hi200 dL_law_200 ?_
      obtain ⟨r201, V201, hr201, h⟩ := cr_b2_s h
      refine jc_Vi X.c (As := [.int (xs (x3_18 + (1 : Int32)).toNatClampNeg), .int (xs (x3_18 + (2 : Int32)).toNatClampNeg), .int (xs (x3_18 + (3 : Int32)).toNatClampNeg)]) (V1 := V201) (C := RX7) (T := TX7) (N := 5) (ci := 7) 3 (m_X7_drawRing l w V_l18 (xs (x3_18 + (1 : Int32)).toNatClampNeg) (xs (x3_18 + (2 : Int32)).toNatClampNeg) (xs (x3_18 + (3 : Int32)).toNatClampNeg)  (r201, V201) hr201) ⟨rfl, rfl⟩ ml_L_18 im_X7_drawRing sl_X7_drawRing in_X7 cd_X7_drawRing hd_X7_drawRing ⟨Nat.le_of_ble_eq_true rfl, Nat.le_of_ble_eq_true rfl⟩ ⟨Nat.le_of_ble_eq_true rfl, Nat.le_of_ble_eq_true rfl⟩ rfl (Nat.le_of_ble_eq_true rfl) (by decide) ((cr_row_152 w) _) rfl rfl dL_law_201 ?_
      refine jr_aload_n X.c dL_law_204 rfl 2 rfl ?_
      refine jr_aload_n X.c dL_law_205 rfl 0 rfl ?_
      refine jr_iload_n X.c dL_law_206 rfl 3 rfl ?_
      refine jr_iconst X.c (v := (1 : Int32)) dL_law_207 (by decide) ?_
      refine jr_iadd X.c dL_law_208 ?_
      obtain ⟨hi209, h⟩ := cr_gd_s h
      refine jr_sld X hi209 dL_law_209 ?_
      refine jr_aload_n X.c dL_law_210 rfl 0 rfl ?_
      refine jr_iload_n X.c dL_law_211 rfl 3 rfl ?_
      refine jr_iconst X.c (v := (2 : Int32)) dL_law_212 (by decide) ?_
      refine jr_iadd X.c dL_law_213 ?_
      obtain ⟨hi214, h⟩ := cr_gd_s h
      refine jr_sld X hi214 dL_law_214 ?_
      refine jr_aload_n X.c dL_law_215 rfl 0 rfl ?_
      refine jr_iload_n X.c dL_law_216 rfl 3 rfl ?_
      refine jr_iconst X.c (v := (3 : Int32)) dL_law_217 (by decide) ?_
      refine jr_iadd X.c dL_law_218 ?_
      obtain ⟨hi219, h⟩ := cr_gd_s h
      refine jr_sld X hi219 dL_law_219 ?_
      obtain ⟨r220, V220, hr220, h⟩ := cr_b2_s h
      refine jc_Vi X.c (As := [.int (xs (x3_18 + (1 : Int32)).toNatClampNeg), .int (xs (x3_18 + (2 : Int32)).toNatClampNeg), .int (xs (x3_18 + (3 : Int32)).toNatClampNeg)]) (V1 := V220) (C := RX8) (T := TX8) (N := 22) (ci := 8) 3 (m_X8_drawRing l w V201 (xs (x3_18 + (1 : Int32)).toNatClampNeg) (xs (x3_18 + (2 : Int32)).toNatClampNeg) (xs (x3_18 + (3 : Int32)).toNatClampNeg)  (r220, V220) hr220) ⟨rfl, rfl⟩ ml_L_22 im_X8_drawRing sl_X8_drawRing in_X8 cd_X8_drawRing hd_X8_drawRing ⟨Nat.le_of_ble_eq_true rfl, Nat.le_of_ble_eq_true rfl⟩ ⟨Nat.le_of_ble_eq_true rfl, Nat.le_of_ble_eq_true rfl⟩ rfl (Nat.le_of_ble_eq_true rfl) (by decide) ((cr_row_159 w) _) rfl rfl dL_law_220 ?_
      refine jr_icmp_eq X.c 686 dL_law_223 (by decide) (fun q223 => ?_) (fun q223 => ?_)
      · replace h := cr_if_t q223 h
        refine jr_iinc X.c (v := (x3_18 + (5 : Int32))) (lv2 := [(3, .int (x3_18 + (5 : Int32))), (0, .ref bs), (1, .ref (w.1 152)), (2, .ref (w.1 159))]) dL_law_686 3 rfl (by rfl) (by decide) rfl ?_
        refine jr_goto X.c 18 dL_law_689 (by decide) ?_
        cases h
        refine jr_sub [1, 2, 3, 0] rfl ?_
        exact kl (x3_18 + (5 : Int32)) V220 rfl
      · replace h := cr_if_f q223 h
        cases h
    replace h := cr_if_f q32_1 h
    by_cases q32_2 : ((xs x3_18.toNatClampNeg) &&& (31 : Int32)) = (2 : Int32)
    · replace h := cr_if_t q32_2 h
      refine jr_tabI X.c (2 : Int32) q32_2 228 dL_law_32 (by decide) (by decide) (by rfl) (by decide) ?_
      refine jr_aload_n X.c dL_law_228 rfl 1 rfl ?_
      refine jr_aload_n X.c dL_law_229 rfl 0 rfl ?_
      refine jr_iload_n X.c dL_law_230 rfl 3 rfl ?_
      refine jr_iconst X.c (v := (1 : Int32)) dL_law_231 (by decide) ?_
      refine jr_iadd X.c dL_law_232 ?_
      obtain ⟨hi233, h⟩ := cr_gd_s h
      refine jr_sld X hi233 dL_law_233 ?_
      refine jr_aload_n X.c dL_law_234 rfl 0 rfl ?_
      refine jr_iload_n X.c dL_law_235 rfl 3 rfl ?_
      refine jr_iconst X.c (v := (2 : Int32)) dL_law_236 (by decide) ?_
      refine jr_iadd X.c dL_law_237 ?_
      obtain ⟨hi238, h⟩ := cr_gd_s h
      refine jr_sld X hi238 dL_law_238 ?_
      refine jr_aload_n X.c dL_law_239 rfl 0 rfl ?_
      refine jr_iload_n X.c dL_law_240 rfl 3 rfl ?_
      refine jr_iconst X.c (v := (3 : Int32)) dL_law_241 (by decide) ?_
      refine jr_iadd X.c dL_law_242 ?_
      obtain ⟨hi243, h⟩ := cr_gd_s h
      refine jr_sld X hi243 dL_law_243 ?_
      obtain ⟨r244, V244, hr244, h⟩ := cr_b2_s h
      refine jc_Vi X.c (As := [.int (xs (x3_18 + (1 : Int32)).toNatClampNeg), .int (xs (x3_18 + (2 : Int32)).toNatClampNeg), .int (xs (x3_18 + (3 : Int32)).toNatClampNeg)]) (V1 := V244) (C := RX7) (T := TX7) (N := 5) (ci := 7) 3 (m_X7_move l w V_l18 (xs (x3_18 + (1 : Int32)).toNatClampNeg) (xs (x3_18 + (2 : Int32)).toNatClampNeg) (xs (x3_18 + (3 : Int32)).toNatClampNeg)  (r244, V244) hr244) ⟨rfl, rfl⟩ ml_L_23 im_X7_move sl_X7_move in_X7 cd_X7_move hd_X7_move ⟨Nat.le_of_ble_eq_true rfl, Nat.le_of_ble_eq_true rfl⟩ ⟨Nat.le_of_ble_eq_true rfl, Nat.le_of_ble_eq_true rfl⟩ rfl (Nat.le_of_ble_eq_true rfl) (by decide) ((cr_row_152 w) _) rfl rfl dL_law_244 ?_
      refine jr_aload_n X.c dL_law_247 rfl 2 rfl ?_
      refine jr_aload_n X.c dL_law_248 rfl 0 rfl ?_
      refine jr_iload_n X.c dL_law_249 rfl 3 rfl ?_
      refine jr_iconst X.c (v := (1 : Int32)) dL_law_250 (by decide) ?_
      refine jr_iadd X.c dL_law_251 ?_
      obtain ⟨hi252, h⟩ := cr_gd_s h
      refine jr_sld X hi252 dL_law_252 ?_
      refine jr_aload_n X.c dL_law_253 rfl 0 rfl ?_
      refine jr_iload_n X.c dL_law_254 rfl 3 rfl ?_
      refine jr_iconst X.c (v := (2 : Int32)) dL_law_255 (by decide) ?_
      refine jr_iadd X.c dL_law_256 ?_
      obtain ⟨hi257, h⟩ := cr_gd_s h
      refine jr_sld X hi257 dL_law_257 ?_
      refine jr_aload_n X.c dL_law_258 rfl 0 rfl ?_
      refine jr_iload_n X.c dL_law_259 rfl 3 rfl ?_
      refine jr_iconst X.c (v := (3 : Int32)) dL_law_260 (by decide) ?_
      refine jr_iadd X.c dL_law_261 ?_
      obtain ⟨hi262, h⟩ := cr_gd_s h
      refine jr_sld X hi262 dL_law_262 ?_
      obtain ⟨r263, V263, hr263, h⟩ := cr_b2_s h
      refine jc_Vi X.c (As := [.int (xs (x3_18 + (1 : Int32)).toNatClampNeg), .int (xs (x3_18 + (2 : Int32)).toNatClampNeg), .int (xs (x3_18 + (3 : Int32)).toNatClampNeg)]) (V1 := V263) (C := RX8) (T := TX8) (N := 22) (ci := 8) 3 (m_X8_move l w V244 (xs (x3_18 + (1 : Int32)).toNatClampNeg) (xs (x3_18 + (2 : Int32)).toNatClampNeg) (xs (x3_18 + (3 : Int32)).toNatClampNeg)  (r263, V263) hr263) ⟨rfl, rfl⟩ ml_L_26 im_X8_move sl_X8_move in_X8 cd_X8_move hd_X8_move ⟨Nat.le_of_ble_eq_true rfl, Nat.le_of_ble_eq_true rfl⟩ ⟨Nat.le_of_ble_eq_true rfl, Nat.le_of_ble_eq_true rfl⟩ rfl (Nat.le_of_ble_eq_true rfl) (by decide) ((cr_row_159 w) _) rfl rfl dL_law_263 ?_
      refine jr_icmp_eq X.c 686 dL_law_266 (by decide) (fun q266 => ?_) (fun q266 => ?_)
      · replace h := cr_if_t q266 h
        refine jr_iinc X.c (v := (x3_18 + (5 : Int32))) (lv2 := [(3, .int (x3_18 + (5 : Int32))), (0, .ref bs), (1, .ref (w.1 152)), (2, .ref (w.1 159))]) dL_law_686 3 rfl (by rfl) (by decide) rfl ?_
        refine jr_goto X.c 18 dL_law_689 (by decide) ?_
        cases h
        refine jr_sub [1, 2, 3, 0] rfl ?_
        exact kl (x3_18 + (5 : Int32)) V263 rfl
      · replace h := cr_if_f q266 h
        cases h
    replace h := cr_if_f q32_2 h
    by_cases q32_3 : ((xs x3_18.toNatClampNeg) &&& (31 : Int32)) = (3 : Int32)
    · replace h := cr_if_t q32_3 h
      refine jr_tabI X.c (3 : Int32) q32_3 271 dL_law_32 (by decide) (by decide) (by rfl) (by decide) ?_
      refine jr_aload_n X.c dL_law_271 rfl 1 rfl ?_
      obtain ⟨r272, V272, hr272, h⟩ := cr_b2_s h
      refine jc_Vi X.c (As := []) (V1 := V272) (C := RX7) (T := TX7) (N := 5) (ci := 7) 0 (m_X7_clear l w V_l18   (r272, V272) hr272) ⟨rfl, rfl⟩ ml_L_27 im_X7_clear sl_X7_clear in_X7 cd_X7_clear hd_X7_clear ⟨Nat.le_of_ble_eq_true rfl, Nat.le_of_ble_eq_true rfl⟩ ⟨Nat.le_of_ble_eq_true rfl, Nat.le_of_ble_eq_true rfl⟩ rfl (Nat.le_of_ble_eq_true rfl) (by decide) ((cr_row_152 w) _) rfl rfl dL_law_272 ?_
      refine jr_aload_n X.c dL_law_275 rfl 2 rfl ?_
      obtain ⟨r276, V276, hr276, h⟩ := cr_b2_s h
      refine jc_Vi X.c (As := []) (V1 := V276) (C := RX8) (T := TX8) (N := 22) (ci := 8) 0 (m_X8_clear l w V272   (r276, V276) hr276) ⟨rfl, rfl⟩ ml_L_31 im_X8_clear sl_X8_clear in_X8 cd_X8_clear hd_X8_clear ⟨Nat.le_of_ble_eq_true rfl, Nat.le_of_ble_eq_true rfl⟩ ⟨Nat.le_of_ble_eq_true rfl, Nat.le_of_ble_eq_true rfl⟩ rfl (Nat.le_of_ble_eq_true rfl) (by decide) ((cr_row_159 w) _) rfl rfl dL_law_276 ?_
      refine jr_icmp_eq X.c 686 dL_law_279 (by decide) (fun q279 => ?_) (fun q279 => ?_)
      · replace h := cr_if_t q279 h
        refine jr_iinc X.c (v := (x3_18 + (5 : Int32))) (lv2 := [(3, .int (x3_18 + (5 : Int32))), (0, .ref bs), (1, .ref (w.1 152)), (2, .ref (w.1 159))]) dL_law_686 3 rfl (by rfl) (by decide) rfl ?_
        refine jr_goto X.c 18 dL_law_689 (by decide) ?_
        cases h
        refine jr_sub [1, 2, 3, 0] rfl ?_
        exact kl (x3_18 + (5 : Int32)) V276 rfl
      · replace h := cr_if_f q279 h
        cases h
    replace h := cr_if_f q32_3 h
    by_cases q32_4 : ((xs x3_18.toNatClampNeg) &&& (31 : Int32)) = (4 : Int32)
    · replace h := cr_if_t q32_4 h
      refine jr_tabI X.c (4 : Int32) q32_4 284 dL_law_32 (by decide) (by decide) (by rfl) (by decide) ?_
      refine jr_aload_n X.c dL_law_284 rfl 1 rfl ?_
      refine jr_aload_n X.c dL_law_285 rfl 0 rfl ?_
      refine jr_iload_n X.c dL_law_286 rfl 3 rfl ?_
      refine jr_iconst X.c (v := (1 : Int32)) dL_law_287 (by decide) ?_
      refine jr_iadd X.c dL_law_288 ?_
      obtain ⟨hi289, h⟩ := cr_gd_s h
      refine jr_sld X hi289 dL_law_289 ?_
      refine jr_aload_n X.c dL_law_290 rfl 0 rfl ?_
      refine jr_iload_n X.c dL_law_291 rfl 3 rfl ?_
      refine jr_iconst X.c (v := (2 : Int32)) dL_law_292 (by decide) ?_
      refine jr_iadd X.c dL_law_293 ?_
      obtain ⟨hi294, h⟩ := cr_gd_s h
      refine jr_sld X hi294 dL_law_294 ?_
      refine jr_aload_n X.c dL_law_295 rfl 0 rfl ?_
      refine jr_iload_n X.c dL_law_296 rfl 3 rfl ?_
      refine jr_iconst X.c (v := (3 : Int32)) dL_law_297 (by decide) ?_
      refine jr_iadd X.c dL_law_298 ?_
      obtain ⟨hi299, h⟩ := cr_gd_s h
      refine jr_sld X hi299 dL_law_299 ?_
      obtain ⟨r300, V300, hr300, h⟩ := cr_b2_s h
      refine jc_Vi X.c (As := [.int (xs (x3_18 + (1 : Int32)).toNatClampNeg), .int (xs (x3_18 + (2 : Int32)).toNatClampNeg), .int (xs (x3_18 + (3 : Int32)).toNatClampNeg)]) (V1 := V300) (C := RX7) (T := TX7) (N := 5) (ci := 7) 3 (m_X7_flick l w V_l18 (xs (x3_18 + (1 : Int32)).toNatClampNeg) (xs (x3_18 + (2 : Int32)).toNatClampNeg) (xs (x3_18 + (3 : Int32)).toNatClampNeg)  (r300, V300) hr300) ⟨rfl, rfl⟩ ml_L_32 im_X7_flick sl_X7_flick in_X7 cd_X7_flick hd_X7_flick ⟨Nat.le_of_ble_eq_true rfl, Nat.le_of_ble_eq_true rfl⟩ ⟨Nat.le_of_ble_eq_true rfl, Nat.le_of_ble_eq_true rfl⟩ rfl (Nat.le_of_ble_eq_true rfl) (by decide) ((cr_row_152 w) _) rfl rfl dL_law_300 ?_
      refine jr_aload_n X.c dL_law_303 rfl 2 rfl ?_
      refine jr_aload_n X.c dL_law_304 rfl 0 rfl ?_
      refine jr_iload_n X.c dL_law_305 rfl 3 rfl ?_
      refine jr_iconst X.c (v := (1 : Int32)) dL_law_306 (by decide) ?_
      refine jr_iadd X.c dL_law_307 ?_
      obtain ⟨hi308, h⟩ := cr_gd_s h
      refine jr_sld X hi308 dL_law_308 ?_
      refine jr_aload_n X.c dL_law_309 rfl 0 rfl ?_
      refine jr_iload_n X.c dL_law_310 rfl 3 rfl ?_
      refine jr_iconst X.c (v := (2 : Int32)) dL_law_311 (by decide) ?_
      refine jr_iadd X.c dL_law_312 ?_
      obtain ⟨hi313, h⟩ := cr_gd_s h
      refine jr_sld X hi313 dL_law_313 ?_
      refine jr_aload_n X.c dL_law_314 rfl 0 rfl ?_
      refine jr_iload_n X.c dL_law_315 rfl 3 rfl ?_
      refine jr_iconst X.c (v := (3 : Int32)) dL_law_316 (by decide) ?_
      refine jr_iadd X.c dL_law_317 ?_
      obtain ⟨hi318, h⟩ := cr_gd_s h
      refine jr_sld X hi318 dL_law_318 ?_
      obtain ⟨r319, V319, hr319, h⟩ := cr_b2_s h
      refine jc_Vi X.c (As := [.int (xs (x3_18 + (1 : Int32)).toNatClampNeg), .int (xs (x3_18 + (2 : Int32)).toNatClampNeg), .int (xs (x3_18 + (3 : Int32)).toNatClampNeg)]) (V1 := V319) (C := RX8) (T := TX8) (N := 22) (ci := 8) 3 (m_X8_flick l w V300 (xs (x3_18 + (1 : Int32)).toNatClampNeg) (xs (x3_18 + (2 : Int32)).toNatClampNeg) (xs (x3_18 + (3 : Int32)).toNatClampNeg)  (r319, V319) hr319) ⟨rfl, rfl⟩ ml_L_35 im_X8_flick sl_X8_flick in_X8 cd_X8_flick hd_X8_flick ⟨Nat.le_of_ble_eq_true rfl, Nat.le_of_ble_eq_true rfl⟩ ⟨Nat.le_of_ble_eq_true rfl, Nat.le_of_ble_eq_true rfl⟩ rfl (Nat.le_of_ble_eq_true rfl) (by decide) ((cr_row_159 w) _) rfl rfl dL_law_319 ?_
      refine jr_icmp_eq X.c 686 dL_law_322 (by decide) (fun q322 => ?_) (fun q322 => ?_)
      · replace h := cr_if_t q322 h
        refine jr_iinc X.c (v := (x3_18 + (5 : Int32))) (lv2 := [(3, .int (x3_18 + (5 : Int32))), (0, .ref bs), (1, .ref (w.1 152)), (2, .ref (w.1 159))]) dL_law_686 3 rfl (by rfl) (by decide) rfl ?_
        refine jr_goto X.c 18 dL_law_689 (by decide) ?_
        cases h
        refine jr_sub [1, 2, 3, 0] rfl ?_
        exact kl (x3_18 + (5 : Int32)) V319 rfl
      · replace h := cr_if_f q322 h
        cases h
    replace h := cr_if_f q32_4 h
    by_cases q32_5 : ((xs x3_18.toNatClampNeg) &&& (31 : Int32)) = (5 : Int32)
    · replace h := cr_if_t q32_5 h
      refine jr_tabI X.c (5 : Int32) q32_5 327 dL_law_32 (by decide) (by decide) (by rfl) (by decide) ?_
      refine jr_aload_n X.c dL_law_327 rfl 1 rfl ?_
      obtain ⟨r328, V328, hr328, h⟩ := cr_b2_s h
      refine jc_Vi X.c (As := []) (V1 := V328) (C := RX7) (T := TX7) (N := 5) (ci := 7) 0 (m_X7_pass l w V_l18   (r328, V328) hr328) ⟨rfl, rfl⟩ ml_L_36 im_X7_pass sl_X7_pass in_X7 cd_X7_pass hd_X7_pass ⟨Nat.le_of_ble_eq_true rfl, Nat.le_of_ble_eq_true rfl⟩ ⟨Nat.le_of_ble_eq_true rfl, Nat.le_of_ble_eq_true rfl⟩ rfl (Nat.le_of_ble_eq_true rfl) (by decide) ((cr_row_152 w) _) rfl rfl dL_law_328 ?_
      refine jr_aload_n X.c dL_law_331 rfl 2 rfl ?_
      obtain ⟨r332, V332, hr332, h⟩ := cr_b2_s h
      refine jc_Vi X.c (As := []) (V1 := V332) (C := RX8) (T := TX8) (N := 22) (ci := 8) 0 (m_X8_pass l w V328   (r332, V332) hr332) ⟨rfl, rfl⟩ ml_L_39 im_X8_pass sl_X8_pass in_X8 cd_X8_pass hd_X8_pass ⟨Nat.le_of_ble_eq_true rfl, Nat.le_of_ble_eq_true rfl⟩ ⟨Nat.le_of_ble_eq_true rfl, Nat.le_of_ble_eq_true rfl⟩ rfl (Nat.le_of_ble_eq_true rfl) (by decide) ((cr_row_159 w) _) rfl rfl dL_law_332 ?_
      refine jr_icmp_eq X.c 686 dL_law_335 (by decide) (fun q335 => ?_) (fun q335 => ?_)
      · replace h := cr_if_t q335 h
        refine jr_iinc X.c (v := (x3_18 + (5 : Int32))) (lv2 := [(3, .int (x3_18 + (5 : Int32))), (0, .ref bs), (1, .ref (w.1 152)), (2, .ref (w.1 159))]) dL_law_686 3 rfl (by rfl) (by decide) rfl ?_
        refine jr_goto X.c 18 dL_law_689 (by decide) ?_
        cases h
        refine jr_sub [1, 2, 3, 0] rfl ?_
        exact kl (x3_18 + (5 : Int32)) V332 rfl
      · replace h := cr_if_f q335 h
        cases h
    replace h := cr_if_f q32_5 h
    by_cases q32_6 : ((xs x3_18.toNatClampNeg) &&& (31 : Int32)) = (6 : Int32)
    · replace h := cr_if_t q32_6 h
      refine jr_tabI X.c (6 : Int32) q32_6 340 dL_law_32 (by decide) (by decide) (by rfl) (by decide) ?_
      refine jr_aload_n X.c dL_law_340 rfl 1 rfl ?_
      refine jr_aload_n X.c dL_law_341 rfl 0 rfl ?_
      refine jr_iload_n X.c dL_law_342 rfl 3 rfl ?_
      refine jr_iconst X.c (v := (1 : Int32)) dL_law_343 (by decide) ?_
      refine jr_iadd X.c dL_law_344 ?_
      obtain ⟨hi345, h⟩ := cr_gd_s h
      refine jr_sld X hi345 dL_law_345 ?_
      obtain ⟨r346, hr346, h⟩ := cr_bd_s h
      refine jc_Vi X.c (As := [.int (xs (x3_18 + (1 : Int32)).toNatClampNeg)]) (V1 := V_l18) (C := RX7) (T := TX7) (N := 5) (ci := 7) 1 (m_X7_count l w V_l18 (xs (x3_18 + (1 : Int32)).toNatClampNeg)  r346 hr346) ⟨rfl, rfl⟩ ml_L_40 im_X7_count sl_X7_count in_X7 cd_X7_count hd_X7_count ⟨Nat.le_of_ble_eq_true rfl, Nat.le_of_ble_eq_true rfl⟩ ⟨Nat.le_of_ble_eq_true rfl, Nat.le_of_ble_eq_true rfl⟩ rfl (Nat.le_of_ble_eq_true rfl) (by decide) ((cr_row_152 w) _) rfl rfl dL_law_346 ?_
      refine jr_aload_n X.c dL_law_349 rfl 2 rfl ?_
      refine jr_aload_n X.c dL_law_350 rfl 0 rfl ?_
      refine jr_iload_n X.c dL_law_351 rfl 3 rfl ?_
      refine jr_iconst X.c (v := (1 : Int32)) dL_law_352 (by decide) ?_
      refine jr_iadd X.c dL_law_353 ?_
      obtain ⟨hi354, h⟩ := cr_gd_s h
      refine jr_sld X hi354 dL_law_354 ?_
      obtain ⟨r355, hr355, h⟩ := cr_bd_s h
      refine jc_Vi X.c (As := [.int (xs (x3_18 + (1 : Int32)).toNatClampNeg)]) (V1 := V_l18) (C := RX8) (T := TX8) (N := 22) (ci := 8) 1 (m_X8_count l w V_l18 (xs (x3_18 + (1 : Int32)).toNatClampNeg)  r355 hr355) ⟨rfl, rfl⟩ ml_L_44 im_X8_count sl_X8_count in_X8 cd_X8_count hd_X8_count ⟨Nat.le_of_ble_eq_true rfl, Nat.le_of_ble_eq_true rfl⟩ ⟨Nat.le_of_ble_eq_true rfl, Nat.le_of_ble_eq_true rfl⟩ rfl (Nat.le_of_ble_eq_true rfl) (by decide) ((cr_row_159 w) _) rfl rfl dL_law_355 ?_
      refine jr_icmp_eq X.c 686 dL_law_358 (by decide) (fun q358 => ?_) (fun q358 => ?_)
      · replace h := cr_if_t q358 h
        refine jr_iinc X.c (v := (x3_18 + (5 : Int32))) (lv2 := [(3, .int (x3_18 + (5 : Int32))), (0, .ref bs), (1, .ref (w.1 152)), (2, .ref (w.1 159))]) dL_law_686 3 rfl (by rfl) (by decide) rfl ?_
        refine jr_goto X.c 18 dL_law_689 (by decide) ?_
        cases h
        refine jr_sub [1, 2, 3, 0] rfl ?_
        exact kl (x3_18 + (5 : Int32)) V_l18 rfl
      · replace h := cr_if_f q358 h
        cases h
    replace h := cr_if_f q32_6 h
    by_cases q32_7 : ((xs x3_18.toNatClampNeg) &&& (31 : Int32)) = (7 : Int32)
    · replace h := cr_if_t q32_7 h
      refine jr_tabI X.c (7 : Int32) q32_7 363 dL_law_32 (by decide) (by decide) (by rfl) (by decide) ?_
      refine jr_aload_n X.c dL_law_363 rfl 1 rfl ?_
      refine jr_aload_n X.c dL_law_364 rfl 0 rfl ?_
      refine jr_iload_n X.c dL_law_365 rfl 3 rfl ?_
      refine jr_iconst X.c (v := (1 : Int32)) dL_law_366 (by decide) ?_
      refine jr_iadd X.c dL_law_367 ?_
      obtain ⟨hi368, h⟩ := cr_gd_s h
      refine jr_sld X hi368 dL_law_368 ?_
      refine jr_aload_n X.c dL_law_369 rfl 0 rfl ?_
      refine jr_iload_n X.c dL_law_370 rfl 3 rfl ?_
      refine jr_iconst X.c (v := (2 : Int32)) dL_law_371 (by decide) ?_
      refine jr_iadd X.c dL_law_372 ?_
      obtain ⟨hi373, h⟩ := cr_gd_s h
      refine jr_sld X hi373 dL_law_373 ?_
      obtain ⟨r374, hr374, h⟩ := cr_bd_s h
      refine jc_Vi X.c (As := [.int (xs (x3_18 + (1 : Int32)).toNatClampNeg), .int (xs (x3_18 + (2 : Int32)).toNatClampNeg)]) (V1 := V_l18) (C := RX7) (T := TX7) (N := 5) (ci := 7) 2 (m_X7_marble l w V_l18 (xs (x3_18 + (1 : Int32)).toNatClampNeg) (xs (x3_18 + (2 : Int32)).toNatClampNeg)  r374 hr374) ⟨rfl, rfl⟩ ml_L_45 im_X7_marble sl_X7_marble in_X7 cd_X7_marble hd_X7_marble ⟨Nat.le_of_ble_eq_true rfl, Nat.le_of_ble_eq_true rfl⟩ ⟨Nat.le_of_ble_eq_true rfl, Nat.le_of_ble_eq_true rfl⟩ rfl (Nat.le_of_ble_eq_true rfl) (by decide) ((cr_row_152 w) _) rfl rfl dL_law_374 ?_
      refine jr_aload_n X.c dL_law_377 rfl 2 rfl ?_
      refine jr_aload_n X.c dL_law_378 rfl 0 rfl ?_
      refine jr_iload_n X.c dL_law_379 rfl 3 rfl ?_
      refine jr_iconst X.c (v := (1 : Int32)) dL_law_380 (by decide) ?_
      refine jr_iadd X.c dL_law_381 ?_
      obtain ⟨hi382, h⟩ := cr_gd_s h
      refine jr_sld X hi382 dL_law_382 ?_
      refine jr_aload_n X.c dL_law_383 rfl 0 rfl ?_
      refine jr_iload_n X.c dL_law_384 rfl 3 rfl ?_
      refine jr_iconst X.c (v := (2 : Int32)) dL_law_385 (by decide) ?_
      refine jr_iadd X.c dL_law_386 ?_
      obtain ⟨hi387, h⟩ := cr_gd_s h
      refine jr_sld X hi387 dL_law_387 ?_
      obtain ⟨r388, hr388, h⟩ := cr_bd_s h
      refine jc_Vi X.c (As := [.int (xs (x3_18 + (1 : Int32)).toNatClampNeg), .int (xs (x3_18 + (2 : Int32)).toNatClampNeg)]) (V1 := V_l18) (C := RX8) (T := TX8) (N := 22) (ci := 8) 2 (m_X8_marble l w V_l18 (xs (x3_18 + (1 : Int32)).toNatClampNeg) (xs (x3_18 + (2 : Int32)).toNatClampNeg)  r388 hr388) ⟨rfl, rfl⟩ ml_L_49 im_X8_marble sl_X8_marble in_X8 cd_X8_marble hd_X8_marble ⟨Nat.le_of_ble_eq_true rfl, Nat.le_of_ble_eq_true rfl⟩ ⟨Nat.le_of_ble_eq_true rfl, Nat.le_of_ble_eq_true rfl⟩ rfl (Nat.le_of_ble_eq_true rfl) (by decide) ((cr_row_159 w) _) rfl rfl dL_law_388 ?_
      refine jr_icmp_eq X.c 686 dL_law_391 (by decide) (fun q391 => ?_) (fun q391 => ?_)
      · replace h := cr_if_t q391 h
        refine jr_iinc X.c (v := (x3_18 + (5 : Int32))) (lv2 := [(3, .int (x3_18 + (5 : Int32))), (0, .ref bs), (1, .ref (w.1 152)), (2, .ref (w.1 159))]) dL_law_686 3 rfl (by rfl) (by decide) rfl ?_
        refine jr_goto X.c 18 dL_law_689 (by decide) ?_
        cases h
        refine jr_sub [1, 2, 3, 0] rfl ?_
        exact kl (x3_18 + (5 : Int32)) V_l18 rfl
      · replace h := cr_if_f q391 h
        cases h
    replace h := cr_if_f q32_7 h
    by_cases q32_8 : ((xs x3_18.toNatClampNeg) &&& (31 : Int32)) = (8 : Int32)
    · replace h := cr_if_t q32_8 h
      refine jr_tabI X.c (8 : Int32) q32_8 396 dL_law_32 (by decide) (by decide) (by rfl) (by decide) ?_
      refine jr_aload_n X.c dL_law_396 rfl 1 rfl ?_
      refine jr_aload_n X.c dL_law_397 rfl 0 rfl ?_
      refine jr_iload_n X.c dL_law_398 rfl 3 rfl ?_
      refine jr_iconst X.c (v := (1 : Int32)) dL_law_399 (by decide) ?_
      refine jr_iadd X.c dL_law_400 ?_
      obtain ⟨hi401, h⟩ := cr_gd_s h
      refine jr_sld X hi401 dL_law_401 ?_
      refine jr_aload_n X.c dL_law_402 rfl 0 rfl ?_
      refine jr_iload_n X.c dL_law_403 rfl 3 rfl ?_
      refine jr_iconst X.c (v := (2 : Int32)) dL_law_404 (by decide) ?_
      refine jr_iadd X.c dL_law_405 ?_
      obtain ⟨hi406, h⟩ := cr_gd_s h
      refine jr_sld X hi406 dL_law_406 ?_
      obtain ⟨r407, hr407, h⟩ := cr_bd_s h
      refine jc_Vi X.c (As := [.int (xs (x3_18 + (1 : Int32)).toNatClampNeg), .int (xs (x3_18 + (2 : Int32)).toNatClampNeg)]) (V1 := V_l18) (C := RX7) (T := TX7) (N := 5) (ci := 7) 2 (m_X7_ring l w V_l18 (xs (x3_18 + (1 : Int32)).toNatClampNeg) (xs (x3_18 + (2 : Int32)).toNatClampNeg)  r407 hr407) ⟨rfl, rfl⟩ ml_L_50 im_X7_ring sl_X7_ring in_X7 cd_X7_ring hd_X7_ring ⟨Nat.le_of_ble_eq_true rfl, Nat.le_of_ble_eq_true rfl⟩ ⟨Nat.le_of_ble_eq_true rfl, Nat.le_of_ble_eq_true rfl⟩ rfl (Nat.le_of_ble_eq_true rfl) (by decide) ((cr_row_152 w) _) rfl rfl dL_law_407 ?_
      refine jr_aload_n X.c dL_law_410 rfl 2 rfl ?_
      refine jr_aload_n X.c dL_law_411 rfl 0 rfl ?_
      refine jr_iload_n X.c dL_law_412 rfl 3 rfl ?_
      refine jr_iconst X.c (v := (1 : Int32)) dL_law_413 (by decide) ?_
      refine jr_iadd X.c dL_law_414 ?_
      obtain ⟨hi415, h⟩ := cr_gd_s h
      refine jr_sld X hi415 dL_law_415 ?_
      refine jr_aload_n X.c dL_law_416 rfl 0 rfl ?_
      refine jr_iload_n X.c dL_law_417 rfl 3 rfl ?_
      refine jr_iconst X.c (v := (2 : Int32)) dL_law_418 (by decide) ?_
      refine jr_iadd X.c dL_law_419 ?_
      obtain ⟨hi420, h⟩ := cr_gd_s h
      refine jr_sld X hi420 dL_law_420 ?_
      obtain ⟨r421, hr421, h⟩ := cr_bd_s h
      refine jc_Vi X.c (As := [.int (xs (x3_18 + (1 : Int32)).toNatClampNeg), .int (xs (x3_18 + (2 : Int32)).toNatClampNeg)]) (V1 := V_l18) (C := RX8) (T := TX8) (N := 22) (ci := 8) 2 (m_X8_ring l w V_l18 (xs (x3_18 + (1 : Int32)).toNatClampNeg) (xs (x3_18 + (2 : Int32)).toNatClampNeg)  r421 hr421) ⟨rfl, rfl⟩ ml_L_53 im_X8_ring sl_X8_ring in_X8 cd_X8_ring hd_X8_ring ⟨Nat.le_of_ble_eq_true rfl, Nat.le_of_ble_eq_true rfl⟩ ⟨Nat.le_of_ble_eq_true rfl, Nat.le_of_ble_eq_true rfl⟩ rfl (Nat.le_of_ble_eq_true rfl) (by decide) ((cr_row_159 w) _) rfl rfl dL_law_421 ?_
      refine jr_icmp_eq X.c 686 dL_law_424 (by decide) (fun q424 => ?_) (fun q424 => ?_)
      · replace h := cr_if_t q424 h
        refine jr_iinc X.c (v := (x3_18 + (5 : Int32))) (lv2 := [(3, .int (x3_18 + (5 : Int32))), (0, .ref bs), (1, .ref (w.1 152)), (2, .ref (w.1 159))]) dL_law_686 3 rfl (by rfl) (by decide) rfl ?_
        refine jr_goto X.c 18 dL_law_689 (by decide) ?_
        cases h
        refine jr_sub [1, 2, 3, 0] rfl ?_
        exact kl (x3_18 + (5 : Int32)) V_l18 rfl
      · replace h := cr_if_f q424 h
        cases h
    replace h := cr_if_f q32_8 h
    by_cases q32_9 : ((xs x3_18.toNatClampNeg) &&& (31 : Int32)) = (9 : Int32)
    · replace h := cr_if_t q32_9 h
      refine jr_tabI X.c (9 : Int32) q32_9 429 dL_law_32 (by decide) (by decide) (by rfl) (by decide) ?_
      refine jr_aload_n X.c dL_law_429 rfl 1 rfl ?_
      refine jr_aload_n X.c dL_law_430 rfl 0 rfl ?_
      refine jr_iload_n X.c dL_law_431 rfl 3 rfl ?_
      refine jr_iconst X.c (v := (1 : Int32)) dL_law_432 (by decide) ?_
      refine jr_iadd X.c dL_law_433 ?_
      obtain ⟨hi434, h⟩ := cr_gd_s h
      refine jr_sld X hi434 dL_law_434 ?_
      refine jr_aload_n X.c dL_law_435 rfl 0 rfl ?_
      refine jr_iload_n X.c dL_law_436 rfl 3 rfl ?_
      refine jr_iconst X.c (v := (2 : Int32)) dL_law_437 (by decide) ?_
      refine jr_iadd X.c dL_law_438 ?_
      obtain ⟨hi439, h⟩ := cr_gd_s h
      refine jr_sld X hi439 dL_law_439 ?_
      obtain ⟨r440, hr440, h⟩ := cr_bd_s h
      refine jc_Vi X.c (As := [.int (xs (x3_18 + (1 : Int32)).toNatClampNeg), .int (xs (x3_18 + (2 : Int32)).toNatClampNeg)]) (V1 := V_l18) (C := RX7) (T := TX7) (N := 5) (ci := 7) 2 (m_X7_at l w V_l18 (xs (x3_18 + (1 : Int32)).toNatClampNeg) (xs (x3_18 + (2 : Int32)).toNatClampNeg)  r440 hr440) ⟨rfl, rfl⟩ ml_L_54 im_X7_at sl_X7_at in_X7 cd_X7_at hd_X7_at ⟨Nat.le_of_ble_eq_true rfl, Nat.le_of_ble_eq_true rfl⟩ ⟨Nat.le_of_ble_eq_true rfl, Nat.le_of_ble_eq_true rfl⟩ rfl (Nat.le_of_ble_eq_true rfl) (by decide) ((cr_row_152 w) _) rfl rfl dL_law_440 ?_
      refine jr_aload_n X.c dL_law_443 rfl 2 rfl ?_
      refine jr_aload_n X.c dL_law_444 rfl 0 rfl ?_
      refine jr_iload_n X.c dL_law_445 rfl 3 rfl ?_
      refine jr_iconst X.c (v := (1 : Int32)) dL_law_446 (by decide) ?_
      refine jr_iadd X.c dL_law_447 ?_
      obtain ⟨hi448, h⟩ := cr_gd_s h
      refine jr_sld X hi448 dL_law_448 ?_
      refine jr_aload_n X.c dL_law_449 rfl 0 rfl ?_
      refine jr_iload_n X.c dL_law_450 rfl 3 rfl ?_
      refine jr_iconst X.c (v := (2 : Int32)) dL_law_451 (by decide) ?_
      refine jr_iadd X.c dL_law_452 ?_
      obtain ⟨hi453, h⟩ := cr_gd_s h
      refine jr_sld X hi453 dL_law_453 ?_
      obtain ⟨r454, hr454, h⟩ := cr_bd_s h
      refine jc_Vi X.c (As := [.int (xs (x3_18 + (1 : Int32)).toNatClampNeg), .int (xs (x3_18 + (2 : Int32)).toNatClampNeg)]) (V1 := V_l18) (C := RX8) (T := TX8) (N := 22) (ci := 8) 2 (m_X8_at l w V_l18 (xs (x3_18 + (1 : Int32)).toNatClampNeg) (xs (x3_18 + (2 : Int32)).toNatClampNeg)  r454 hr454) ⟨rfl, rfl⟩ ml_L_57 im_X8_at sl_X8_at in_X8 cd_X8_at hd_X8_at ⟨Nat.le_of_ble_eq_true rfl, Nat.le_of_ble_eq_true rfl⟩ ⟨Nat.le_of_ble_eq_true rfl, Nat.le_of_ble_eq_true rfl⟩ rfl (Nat.le_of_ble_eq_true rfl) (by decide) ((cr_row_159 w) _) rfl rfl dL_law_454 ?_
      refine jr_icmp_eq X.c 686 dL_law_457 (by decide) (fun q457 => ?_) (fun q457 => ?_)
      · replace h := cr_if_t q457 h
        refine jr_iinc X.c (v := (x3_18 + (5 : Int32))) (lv2 := [(3, .int (x3_18 + (5 : Int32))), (0, .ref bs), (1, .ref (w.1 152)), (2, .ref (w.1 159))]) dL_law_686 3 rfl (by rfl) (by decide) rfl ?_
        refine jr_goto X.c 18 dL_law_689 (by decide) ?_
        cases h
        refine jr_sub [1, 2, 3, 0] rfl ?_
        exact kl (x3_18 + (5 : Int32)) V_l18 rfl
      · replace h := cr_if_f q457 h
        cases h
    replace h := cr_if_f q32_9 h
    by_cases q32_10 : ((xs x3_18.toNatClampNeg) &&& (31 : Int32)) = (10 : Int32)
    · replace h := cr_if_t q32_10 h
      refine jr_tabI X.c (10 : Int32) q32_10 462 dL_law_32 (by decide) (by decide) (by rfl) (by decide) ?_
      refine jr_aload_n X.c dL_law_462 rfl 1 rfl ?_
      refine jr_aload_n X.c dL_law_463 rfl 0 rfl ?_
      refine jr_iload_n X.c dL_law_464 rfl 3 rfl ?_
      refine jr_iconst X.c (v := (1 : Int32)) dL_law_465 (by decide) ?_
      refine jr_iadd X.c dL_law_466 ?_
      obtain ⟨hi467, h⟩ := cr_gd_s h
      refine jr_sld X hi467 dL_law_467 ?_
      obtain ⟨r468, hr468, h⟩ := cr_bd_s h
      refine jc_Vi X.c (As := [.int (xs (x3_18 + (1 : Int32)).toNatClampNeg)]) (V1 := V_l18) (C := RX7) (T := TX7) (N := 5) (ci := 7) 1 (m_X7_score l w V_l18 (xs (x3_18 + (1 : Int32)).toNatClampNeg)  r468 hr468) ⟨rfl, rfl⟩ ml_L_58 im_X7_score sl_X7_score in_X7 cd_X7_score hd_X7_score ⟨Nat.le_of_ble_eq_true rfl, Nat.le_of_ble_eq_true rfl⟩ ⟨Nat.le_of_ble_eq_true rfl, Nat.le_of_ble_eq_true rfl⟩ rfl (Nat.le_of_ble_eq_true rfl) (by decide) ((cr_row_152 w) _) rfl rfl dL_law_468 ?_
      refine jr_aload_n X.c dL_law_471 rfl 2 rfl ?_
      refine jr_aload_n X.c dL_law_472 rfl 0 rfl ?_
      refine jr_iload_n X.c dL_law_473 rfl 3 rfl ?_
      refine jr_iconst X.c (v := (1 : Int32)) dL_law_474 (by decide) ?_
      refine jr_iadd X.c dL_law_475 ?_
      obtain ⟨hi476, h⟩ := cr_gd_s h
      refine jr_sld X hi476 dL_law_476 ?_
      obtain ⟨r477, hr477, h⟩ := cr_bd_s h
      refine jc_Vi X.c (As := [.int (xs (x3_18 + (1 : Int32)).toNatClampNeg)]) (V1 := V_l18) (C := RX8) (T := TX8) (N := 22) (ci := 8) 1 (m_X8_score l w V_l18 (xs (x3_18 + (1 : Int32)).toNatClampNeg)  r477 hr477) ⟨rfl, rfl⟩ ml_L_61 im_X8_score sl_X8_score in_X8 cd_X8_score hd_X8_score ⟨Nat.le_of_ble_eq_true rfl, Nat.le_of_ble_eq_true rfl⟩ ⟨Nat.le_of_ble_eq_true rfl, Nat.le_of_ble_eq_true rfl⟩ rfl (Nat.le_of_ble_eq_true rfl) (by decide) ((cr_row_159 w) _) rfl rfl dL_law_477 ?_
      refine jr_icmp_eq X.c 686 dL_law_480 (by decide) (fun q480 => ?_) (fun q480 => ?_)
      · replace h := cr_if_t q480 h
        refine jr_iinc X.c (v := (x3_18 + (5 : Int32))) (lv2 := [(3, .int (x3_18 + (5 : Int32))), (0, .ref bs), (1, .ref (w.1 152)), (2, .ref (w.1 159))]) dL_law_686 3 rfl (by rfl) (by decide) rfl ?_
        refine jr_goto X.c 18 dL_law_689 (by decide) ?_
        cases h
        refine jr_sub [1, 2, 3, 0] rfl ?_
        exact kl (x3_18 + (5 : Int32)) V_l18 rfl
      · replace h := cr_if_f q480 h
        cases h
    replace h := cr_if_f q32_10 h
    by_cases q32_11 : ((xs x3_18.toNatClampNeg) &&& (31 : Int32)) = (11 : Int32)
    · replace h := cr_if_t q32_11 h
      refine jr_tabI X.c (11 : Int32) q32_11 485 dL_law_32 (by decide) (by decide) (by rfl) (by decide) ?_
      refine jr_aload_n X.c dL_law_485 rfl 1 rfl ?_
      obtain ⟨r486, hr486, h⟩ := cr_bd_s h
      refine jc_Vi X.c (As := []) (V1 := V_l18) (C := RX7) (T := TX7) (N := 5) (ci := 7) 0 (m_X7_leader l w V_l18   r486 hr486) ⟨rfl, rfl⟩ ml_L_62 im_X7_leader sl_X7_leader in_X7 cd_X7_leader hd_X7_leader ⟨Nat.le_of_ble_eq_true rfl, Nat.le_of_ble_eq_true rfl⟩ ⟨Nat.le_of_ble_eq_true rfl, Nat.le_of_ble_eq_true rfl⟩ rfl (Nat.le_of_ble_eq_true rfl) (by decide) ((cr_row_152 w) _) rfl rfl dL_law_486 ?_
      refine jr_aload_n X.c dL_law_489 rfl 2 rfl ?_
      obtain ⟨r490, hr490, h⟩ := cr_bd_s h
      refine jc_Vi X.c (As := []) (V1 := V_l18) (C := RX8) (T := TX8) (N := 22) (ci := 8) 0 (m_X8_leader l w V_l18   r490 hr490) ⟨rfl, rfl⟩ ml_L_65 im_X8_leader sl_X8_leader in_X8 cd_X8_leader hd_X8_leader ⟨Nat.le_of_ble_eq_true rfl, Nat.le_of_ble_eq_true rfl⟩ ⟨Nat.le_of_ble_eq_true rfl, Nat.le_of_ble_eq_true rfl⟩ rfl (Nat.le_of_ble_eq_true rfl) (by decide) ((cr_row_159 w) _) rfl rfl dL_law_490 ?_
      refine jr_icmp_eq X.c 686 dL_law_493 (by decide) (fun q493 => ?_) (fun q493 => ?_)
      · replace h := cr_if_t q493 h
        refine jr_iinc X.c (v := (x3_18 + (5 : Int32))) (lv2 := [(3, .int (x3_18 + (5 : Int32))), (0, .ref bs), (1, .ref (w.1 152)), (2, .ref (w.1 159))]) dL_law_686 3 rfl (by rfl) (by decide) rfl ?_
        refine jr_goto X.c 18 dL_law_689 (by decide) ?_
        cases h
        refine jr_sub [1, 2, 3, 0] rfl ?_
        exact kl (x3_18 + (5 : Int32)) V_l18 rfl
      · replace h := cr_if_f q493 h
        cases h
    replace h := cr_if_f q32_11 h
    by_cases q32_12 : ((xs x3_18.toNatClampNeg) &&& (31 : Int32)) = (12 : Int32)
    · replace h := cr_if_t q32_12 h
      refine jr_tabI X.c (12 : Int32) q32_12 498 dL_law_32 (by decide) (by decide) (by rfl) (by decide) ?_
      refine jr_aload_n X.c dL_law_498 rfl 1 rfl ?_
      refine jr_aload_n X.c dL_law_499 rfl 0 rfl ?_
      refine jr_iload_n X.c dL_law_500 rfl 3 rfl ?_
      refine jr_iconst X.c (v := (1 : Int32)) dL_law_501 (by decide) ?_
      refine jr_iadd X.c dL_law_502 ?_
      obtain ⟨hi503, h⟩ := cr_gd_s h
      refine jr_sld X hi503 dL_law_503 ?_
      refine jr_aload_n X.c dL_law_504 rfl 0 rfl ?_
      refine jr_iload_n X.c dL_law_505 rfl 3 rfl ?_
      refine jr_iconst X.c (v := (2 : Int32)) dL_law_506 (by decide) ?_
      refine jr_iadd X.c dL_law_507 ?_
      obtain ⟨hi508, h⟩ := cr_gd_s h
      refine jr_sld X hi508 dL_law_508 ?_
      refine jr_aload_n X.c dL_law_509 rfl 0 rfl ?_
      refine jr_iload_n X.c dL_law_510 rfl 3 rfl ?_
      refine jr_iconst X.c (v := (3 : Int32)) dL_law_511 (by decide) ?_
      refine jr_iadd X.c dL_law_512 ?_
      obtain ⟨hi513, h⟩ := cr_gd_s h
      refine jr_sld X hi513 dL_law_513 ?_
      refine jr_aload_n X.c dL_law_514 rfl 0 rfl ?_
      refine jr_iload_n X.c dL_law_515 rfl 3 rfl ?_
      refine jr_iconst X.c (v := (4 : Int32)) dL_law_516 (by decide) ?_
      refine jr_iadd X.c dL_law_517 ?_
      obtain ⟨hi518, h⟩ := cr_gd_s h
      refine jr_sld X hi518 dL_law_518 ?_
      obtain ⟨r519, V519, hr519, h⟩ := cr_b2_s h
      refine jc_Vi X.c (As := [.int (xs (x3_18 + (1 : Int32)).toNatClampNeg), .int (xs (x3_18 + (2 : Int32)).toNatClampNeg), .int (xs (x3_18 + (3 : Int32)).toNatClampNeg), .int (xs (x3_18 + (4 : Int32)).toNatClampNeg)]) (V1 := V519) (C := RX7) (T := TX7) (N := 5) (ci := 7) 4 (m_X7_ifFlicked l w V_l18 (xs (x3_18 + (1 : Int32)).toNatClampNeg) (xs (x3_18 + (2 : Int32)).toNatClampNeg) (xs (x3_18 + (3 : Int32)).toNatClampNeg) (xs (x3_18 + (4 : Int32)).toNatClampNeg)  (r519, V519) hr519) ⟨rfl, rfl⟩ ml_L_66 im_X7_ifFlicked sl_X7_ifFlicked in_X7 cd_X7_ifFlicked hd_X7_ifFlicked ⟨Nat.le_of_ble_eq_true rfl, Nat.le_of_ble_eq_true rfl⟩ ⟨Nat.le_of_ble_eq_true rfl, Nat.le_of_ble_eq_true rfl⟩ rfl (Nat.le_of_ble_eq_true rfl) (by decide) ((cr_row_152 w) _) rfl rfl dL_law_519 ?_
      refine jr_aload_n X.c dL_law_522 rfl 2 rfl ?_
      refine jr_aload_n X.c dL_law_523 rfl 0 rfl ?_
      refine jr_iload_n X.c dL_law_524 rfl 3 rfl ?_
      refine jr_iconst X.c (v := (1 : Int32)) dL_law_525 (by decide) ?_
      refine jr_iadd X.c dL_law_526 ?_
      obtain ⟨hi527, h⟩ := cr_gd_s h
      refine jr_sld X hi527 dL_law_527 ?_
      refine jr_aload_n X.c dL_law_528 rfl 0 rfl ?_
      refine jr_iload_n X.c dL_law_529 rfl 3 rfl ?_
      refine jr_iconst X.c (v := (2 : Int32)) dL_law_530 (by decide) ?_
      refine jr_iadd X.c dL_law_531 ?_
      obtain ⟨hi532, h⟩ := cr_gd_s h
      refine jr_sld X hi532 dL_law_532 ?_
      refine jr_aload_n X.c dL_law_533 rfl 0 rfl ?_
      refine jr_iload_n X.c dL_law_534 rfl 3 rfl ?_
      refine jr_iconst X.c (v := (3 : Int32)) dL_law_535 (by decide) ?_
      refine jr_iadd X.c dL_law_536 ?_
      obtain ⟨hi537, h⟩ := cr_gd_s h
      refine jr_sld X hi537 dL_law_537 ?_
      refine jr_aload_n X.c dL_law_538 rfl 0 rfl ?_
      refine jr_iload_n X.c dL_law_539 rfl 3 rfl ?_
      refine jr_iconst X.c (v := (4 : Int32)) dL_law_540 (by decide) ?_
      refine jr_iadd X.c dL_law_541 ?_
      obtain ⟨hi542, h⟩ := cr_gd_s h
      refine jr_sld X hi542 dL_law_542 ?_
      obtain ⟨r543, V543, hr543, h⟩ := cr_b2_s h
      refine jc_Vi X.c (As := [.int (xs (x3_18 + (1 : Int32)).toNatClampNeg), .int (xs (x3_18 + (2 : Int32)).toNatClampNeg), .int (xs (x3_18 + (3 : Int32)).toNatClampNeg), .int (xs (x3_18 + (4 : Int32)).toNatClampNeg)]) (V1 := V543) (C := RX8) (T := TX8) (N := 22) (ci := 8) 4 (m_X8_ifFlicked l w V519 (xs (x3_18 + (1 : Int32)).toNatClampNeg) (xs (x3_18 + (2 : Int32)).toNatClampNeg) (xs (x3_18 + (3 : Int32)).toNatClampNeg) (xs (x3_18 + (4 : Int32)).toNatClampNeg)  (r543, V543) hr543) ⟨rfl, rfl⟩ ml_L_69 im_X8_ifFlicked sl_X8_ifFlicked in_X8 cd_X8_ifFlicked hd_X8_ifFlicked ⟨Nat.le_of_ble_eq_true rfl, Nat.le_of_ble_eq_true rfl⟩ ⟨Nat.le_of_ble_eq_true rfl, Nat.le_of_ble_eq_true rfl⟩ rfl (Nat.le_of_ble_eq_true rfl) (by decide) ((cr_row_159 w) _) rfl rfl dL_law_543 ?_
      refine jr_icmp_eq X.c 686 dL_law_546 (by decide) (fun q546 => ?_) (fun q546 => ?_)
      · replace h := cr_if_t q546 h
        refine jr_iinc X.c (v := (x3_18 + (5 : Int32))) (lv2 := [(3, .int (x3_18 + (5 : Int32))), (0, .ref bs), (1, .ref (w.1 152)), (2, .ref (w.1 159))]) dL_law_686 3 rfl (by rfl) (by decide) rfl ?_
        refine jr_goto X.c 18 dL_law_689 (by decide) ?_
        cases h
        refine jr_sub [1, 2, 3, 0] rfl ?_
        exact kl (x3_18 + (5 : Int32)) V543 rfl
      · replace h := cr_if_f q546 h
        cases h
    replace h := cr_if_f q32_12 h
    by_cases q32_13 : ((xs x3_18.toNatClampNeg) &&& (31 : Int32)) = (13 : Int32)
    · replace h := cr_if_t q32_13 h
      refine jr_tabI X.c (13 : Int32) q32_13 551 dL_law_32 (by decide) (by decide) (by rfl) (by decide) ?_
      refine jr_aload_n X.c dL_law_551 rfl 1 rfl ?_
      refine jr_aload_n X.c dL_law_552 rfl 0 rfl ?_
      refine jr_iload_n X.c dL_law_553 rfl 3 rfl ?_
      refine jr_iconst X.c (v := (1 : Int32)) dL_law_554 (by decide) ?_
      refine jr_iadd X.c dL_law_555 ?_
      obtain ⟨hi556, h⟩ := cr_gd_s h
      refine jr_sld X hi556 dL_law_556 ?_
      obtain ⟨r557, V557, hr557, h⟩ := cr_b2_s h
      refine jc_Vi X.c (As := [.int (xs (x3_18 + (1 : Int32)).toNatClampNeg)]) (V1 := V557) (C := RX7) (T := TX7) (N := 5) (ci := 7) 1 (m_X7_bestFlick l w V_l18 (xs (x3_18 + (1 : Int32)).toNatClampNeg)  (r557, V557) hr557) ⟨rfl, rfl⟩ ml_L_70 im_X7_bestFlick sl_X7_bestFlick in_X7 cd_X7_bestFlick hd_X7_bestFlick ⟨Nat.le_of_ble_eq_true rfl, Nat.le_of_ble_eq_true rfl⟩ ⟨Nat.le_of_ble_eq_true rfl, Nat.le_of_ble_eq_true rfl⟩ rfl (Nat.le_of_ble_eq_true rfl) (by decide) ((cr_row_152 w) _) rfl rfl dL_law_557 ?_
      refine jr_aload_n X.c dL_law_560 rfl 2 rfl ?_
      refine jr_aload_n X.c dL_law_561 rfl 0 rfl ?_
      refine jr_iload_n X.c dL_law_562 rfl 3 rfl ?_
      refine jr_iconst X.c (v := (1 : Int32)) dL_law_563 (by decide) ?_
      refine jr_iadd X.c dL_law_564 ?_
      obtain ⟨hi565, h⟩ := cr_gd_s h
      refine jr_sld X hi565 dL_law_565 ?_
      obtain ⟨r566, V566, hr566, h⟩ := cr_b2_s h
      refine jc_Vi X.c (As := [.int (xs (x3_18 + (1 : Int32)).toNatClampNeg)]) (V1 := V566) (C := RX8) (T := TX8) (N := 22) (ci := 8) 1 (m_X8_bestFlick l w V557 (xs (x3_18 + (1 : Int32)).toNatClampNeg)  (r566, V566) hr566) ⟨rfl, rfl⟩ ml_L_73 im_X8_bestFlick sl_X8_bestFlick in_X8 cd_X8_bestFlick hd_X8_bestFlick ⟨Nat.le_of_ble_eq_true rfl, Nat.le_of_ble_eq_true rfl⟩ ⟨Nat.le_of_ble_eq_true rfl, Nat.le_of_ble_eq_true rfl⟩ rfl (Nat.le_of_ble_eq_true rfl) (by decide) ((cr_row_159 w) _) rfl rfl dL_law_566 ?_
      refine jr_icmp_eq X.c 686 dL_law_569 (by decide) (fun q569 => ?_) (fun q569 => ?_)
      · replace h := cr_if_t q569 h
        refine jr_iinc X.c (v := (x3_18 + (5 : Int32))) (lv2 := [(3, .int (x3_18 + (5 : Int32))), (0, .ref bs), (1, .ref (w.1 152)), (2, .ref (w.1 159))]) dL_law_686 3 rfl (by rfl) (by decide) rfl ?_
        refine jr_goto X.c 18 dL_law_689 (by decide) ?_
        cases h
        refine jr_sub [1, 2, 3, 0] rfl ?_
        exact kl (x3_18 + (5 : Int32)) V566 rfl
      · replace h := cr_if_f q569 h
        cases h
    replace h := cr_if_f q32_13 h
    by_cases q32_14 : ((xs x3_18.toNatClampNeg) &&& (31 : Int32)) = (14 : Int32)
    · replace h := cr_if_t q32_14 h
      refine jr_tabI X.c (14 : Int32) q32_14 574 dL_law_32 (by decide) (by decide) (by rfl) (by decide) ?_
      refine jr_aload_n X.c dL_law_574 rfl 1 rfl ?_
      refine jr_aload_n X.c dL_law_575 rfl 0 rfl ?_
      refine jr_iload_n X.c dL_law_576 rfl 3 rfl ?_
      refine jr_iconst X.c (v := (1 : Int32)) dL_law_577 (by decide) ?_
      refine jr_iadd X.c dL_law_578 ?_
      obtain ⟨hi579, h⟩ := cr_gd_s h
      refine jr_sld X hi579 dL_law_579 ?_
      obtain ⟨r580, hr580, h⟩ := cr_bd_s h
      refine jc_Vi X.c (As := [.int (xs (x3_18 + (1 : Int32)).toNatClampNeg)]) (V1 := V_l18) (C := RX7) (T := TX7) (N := 5) (ci := 7) 1 (m_X7_wayOut l w V_l18 (xs (x3_18 + (1 : Int32)).toNatClampNeg)  r580 hr580) ⟨rfl, rfl⟩ ml_L_74 im_X7_wayOut sl_X7_wayOut in_X7 cd_X7_wayOut hd_X7_wayOut ⟨Nat.le_of_ble_eq_true rfl, Nat.le_of_ble_eq_true rfl⟩ ⟨Nat.le_of_ble_eq_true rfl, Nat.le_of_ble_eq_true rfl⟩ rfl (Nat.le_of_ble_eq_true rfl) (by decide) ((cr_row_152 w) _) rfl rfl dL_law_580 ?_
      refine jr_aload_n X.c dL_law_583 rfl 2 rfl ?_
      refine jr_aload_n X.c dL_law_584 rfl 0 rfl ?_
      refine jr_iload_n X.c dL_law_585 rfl 3 rfl ?_
      refine jr_iconst X.c (v := (1 : Int32)) dL_law_586 (by decide) ?_
      refine jr_iadd X.c dL_law_587 ?_
      obtain ⟨hi588, h⟩ := cr_gd_s h
      refine jr_sld X hi588 dL_law_588 ?_
      obtain ⟨r589, hr589, h⟩ := cr_bd_s h
      refine jc_Vi X.c (As := [.int (xs (x3_18 + (1 : Int32)).toNatClampNeg)]) (V1 := V_l18) (C := RX8) (T := TX8) (N := 22) (ci := 8) 1 (m_X8_wayOut l w V_l18 (xs (x3_18 + (1 : Int32)).toNatClampNeg)  r589 hr589) ⟨rfl, rfl⟩ ml_L_77 im_X8_wayOut sl_X8_wayOut in_X8 cd_X8_wayOut hd_X8_wayOut ⟨Nat.le_of_ble_eq_true rfl, Nat.le_of_ble_eq_true rfl⟩ ⟨Nat.le_of_ble_eq_true rfl, Nat.le_of_ble_eq_true rfl⟩ rfl (Nat.le_of_ble_eq_true rfl) (by decide) ((cr_row_159 w) _) rfl rfl dL_law_589 ?_
      refine jr_icmp_eq X.c 686 dL_law_592 (by decide) (fun q592 => ?_) (fun q592 => ?_)
      · replace h := cr_if_t q592 h
        refine jr_iinc X.c (v := (x3_18 + (5 : Int32))) (lv2 := [(3, .int (x3_18 + (5 : Int32))), (0, .ref bs), (1, .ref (w.1 152)), (2, .ref (w.1 159))]) dL_law_686 3 rfl (by rfl) (by decide) rfl ?_
        refine jr_goto X.c 18 dL_law_689 (by decide) ?_
        cases h
        refine jr_sub [1, 2, 3, 0] rfl ?_
        exact kl (x3_18 + (5 : Int32)) V_l18 rfl
      · replace h := cr_if_f q592 h
        cases h
    replace h := cr_if_f q32_14 h
    by_cases q32_15 : ((xs x3_18.toNatClampNeg) &&& (31 : Int32)) = (15 : Int32)
    · replace h := cr_if_t q32_15 h
      refine jr_tabI X.c (15 : Int32) q32_15 597 dL_law_32 (by decide) (by decide) (by rfl) (by decide) ?_
      refine jr_aload_n X.c dL_law_597 rfl 1 rfl ?_
      refine jr_aload_n X.c dL_law_598 rfl 0 rfl ?_
      refine jr_iload_n X.c dL_law_599 rfl 3 rfl ?_
      refine jr_iconst X.c (v := (1 : Int32)) dL_law_600 (by decide) ?_
      refine jr_iadd X.c dL_law_601 ?_
      obtain ⟨hi602, h⟩ := cr_gd_s h
      refine jr_sld X hi602 dL_law_602 ?_
      obtain ⟨r603, V603, hr603, h⟩ := cr_b2_s h
      refine jc_Vi X.c (As := [.int (xs (x3_18 + (1 : Int32)).toNatClampNeg)]) (V1 := V603) (C := RX7) (T := TX7) (N := 5) (ci := 7) 1 (m_X7_type l w V_l18 (xs (x3_18 + (1 : Int32)).toNatClampNeg)  (r603, V603) hr603) ⟨rfl, rfl⟩ ml_L_78 im_X7_type sl_X7_type in_X7 cd_X7_type hd_X7_type ⟨Nat.le_of_ble_eq_true rfl, Nat.le_of_ble_eq_true rfl⟩ ⟨Nat.le_of_ble_eq_true rfl, Nat.le_of_ble_eq_true rfl⟩ rfl (Nat.le_of_ble_eq_true rfl) (by decide) ((cr_row_152 w) _) rfl rfl dL_law_603 ?_
      refine jr_aload_n X.c dL_law_606 rfl 2 rfl ?_
      refine jr_aload_n X.c dL_law_607 rfl 0 rfl ?_
      refine jr_iload_n X.c dL_law_608 rfl 3 rfl ?_
      refine jr_iconst X.c (v := (1 : Int32)) dL_law_609 (by decide) ?_
      refine jr_iadd X.c dL_law_610 ?_
      obtain ⟨hi611, h⟩ := cr_gd_s h
      refine jr_sld X hi611 dL_law_611 ?_
      obtain ⟨r612, V612, hr612, h⟩ := cr_b2_s h
      refine jc_Vi X.c (As := [.int (xs (x3_18 + (1 : Int32)).toNatClampNeg)]) (V1 := V612) (C := RX8) (T := TX8) (N := 22) (ci := 8) 1 (m_X8_type l w V603 (xs (x3_18 + (1 : Int32)).toNatClampNeg)  (r612, V612) hr612) ⟨rfl, rfl⟩ ml_L_81 im_X8_type sl_X8_type in_X8 cd_X8_type hd_X8_type ⟨Nat.le_of_ble_eq_true rfl, Nat.le_of_ble_eq_true rfl⟩ ⟨Nat.le_of_ble_eq_true rfl, Nat.le_of_ble_eq_true rfl⟩ rfl (Nat.le_of_ble_eq_true rfl) (by decide) ((cr_row_159 w) _) rfl rfl dL_law_612 ?_
      refine jr_icmp_eq X.c 686 dL_law_615 (by decide) (fun q615 => ?_) (fun q615 => ?_)
      · replace h := cr_if_t q615 h
        refine jr_iinc X.c (v := (x3_18 + (5 : Int32))) (lv2 := [(3, .int (x3_18 + (5 : Int32))), (0, .ref bs), (1, .ref (w.1 152)), (2, .ref (w.1 159))]) dL_law_686 3 rfl (by rfl) (by decide) rfl ?_
        refine jr_goto X.c 18 dL_law_689 (by decide) ?_
        cases h
        refine jr_sub [1, 2, 3, 0] rfl ?_
        exact kl (x3_18 + (5 : Int32)) V612 rfl
      · replace h := cr_if_f q615 h
        cases h
    replace h := cr_if_f q32_15 h
    by_cases q32_16 : ((xs x3_18.toNatClampNeg) &&& (31 : Int32)) = (16 : Int32)
    · replace h := cr_if_t q32_16 h
      refine jr_tabI X.c (16 : Int32) q32_16 620 dL_law_32 (by decide) (by decide) (by rfl) (by decide) ?_
      refine jr_aload_n X.c dL_law_620 rfl 1 rfl ?_
      obtain ⟨r621, V621, hr621, h⟩ := cr_b2_s h
      refine jc_Vi X.c (As := []) (V1 := V621) (C := RX7) (T := TX7) (N := 5) (ci := 7) 0 (m_X7_clearText l w V_l18   (r621, V621) hr621) ⟨rfl, rfl⟩ ml_L_82 im_X7_clearText sl_X7_clearText in_X7 cd_X7_clearText hd_X7_clearText ⟨Nat.le_of_ble_eq_true rfl, Nat.le_of_ble_eq_true rfl⟩ ⟨Nat.le_of_ble_eq_true rfl, Nat.le_of_ble_eq_true rfl⟩ rfl (Nat.le_of_ble_eq_true rfl) (by decide) ((cr_row_152 w) _) rfl rfl dL_law_621 ?_
      refine jr_aload_n X.c dL_law_624 rfl 2 rfl ?_
      obtain ⟨r625, V625, hr625, h⟩ := cr_b2_s h
      refine jc_Vi X.c (As := []) (V1 := V625) (C := RX8) (T := TX8) (N := 22) (ci := 8) 0 (m_X8_clearText l w V621   (r625, V625) hr625) ⟨rfl, rfl⟩ ml_L_85 im_X8_clearText sl_X8_clearText in_X8 cd_X8_clearText hd_X8_clearText ⟨Nat.le_of_ble_eq_true rfl, Nat.le_of_ble_eq_true rfl⟩ ⟨Nat.le_of_ble_eq_true rfl, Nat.le_of_ble_eq_true rfl⟩ rfl (Nat.le_of_ble_eq_true rfl) (by decide) ((cr_row_159 w) _) rfl rfl dL_law_625 ?_
      refine jr_icmp_eq X.c 686 dL_law_628 (by decide) (fun q628 => ?_) (fun q628 => ?_)
      · replace h := cr_if_t q628 h
        refine jr_iinc X.c (v := (x3_18 + (5 : Int32))) (lv2 := [(3, .int (x3_18 + (5 : Int32))), (0, .ref bs), (1, .ref (w.1 152)), (2, .ref (w.1 159))]) dL_law_686 3 rfl (by rfl) (by decide) rfl ?_
        refine jr_goto X.c 18 dL_law_689 (by decide) ?_
        cases h
        refine jr_sub [1, 2, 3, 0] rfl ?_
        exact kl (x3_18 + (5 : Int32)) V625 rfl
      · replace h := cr_if_f q628 h
        cases h
    replace h := cr_if_f q32_16 h
    by_cases q32_17 : ((xs x3_18.toNatClampNeg) &&& (31 : Int32)) = (17 : Int32)
    · replace h := cr_if_t q32_17 h
      refine jr_tabI X.c (17 : Int32) q32_17 633 dL_law_32 (by decide) (by decide) (by rfl) (by decide) ?_
      refine jr_aload_n X.c dL_law_633 rfl 1 rfl ?_
      obtain ⟨r634, V634, hr634, h⟩ := cr_b2_s h
      refine jc_Vi X.c (As := []) (V1 := V634) (C := RX7) (T := TX7) (N := 5) (ci := 7) 0 (m_X7_syntaxError l w V_l18   (r634, V634) hr634) ⟨rfl, rfl⟩ ml_L_86 im_X7_syntaxError sl_X7_syntaxError in_X7 cd_X7_syntaxError hd_X7_syntaxError ⟨Nat.le_of_ble_eq_true rfl, Nat.le_of_ble_eq_true rfl⟩ ⟨Nat.le_of_ble_eq_true rfl, Nat.le_of_ble_eq_true rfl⟩ rfl (Nat.le_of_ble_eq_true rfl) (by decide) ((cr_row_152 w) _) rfl rfl dL_law_634 ?_
      refine jr_aload_n X.c dL_law_637 rfl 2 rfl ?_
      obtain ⟨r638, V638, hr638, h⟩ := cr_b2_s h
      refine jc_Vi X.c (As := []) (V1 := V638) (C := RX8) (T := TX8) (N := 22) (ci := 8) 0 (m_X8_syntaxError l w V634   (r638, V638) hr638) ⟨rfl, rfl⟩ ml_L_89 im_X8_syntaxError sl_X8_syntaxError in_X8 cd_X8_syntaxError hd_X8_syntaxError ⟨Nat.le_of_ble_eq_true rfl, Nat.le_of_ble_eq_true rfl⟩ ⟨Nat.le_of_ble_eq_true rfl, Nat.le_of_ble_eq_true rfl⟩ rfl (Nat.le_of_ble_eq_true rfl) (by decide) ((cr_row_159 w) _) rfl rfl dL_law_638 ?_
      refine jr_icmp_eq X.c 686 dL_law_641 (by decide) (fun q641 => ?_) (fun q641 => ?_)
      · replace h := cr_if_t q641 h
        refine jr_iinc X.c (v := (x3_18 + (5 : Int32))) (lv2 := [(3, .int (x3_18 + (5 : Int32))), (0, .ref bs), (1, .ref (w.1 152)), (2, .ref (w.1 159))]) dL_law_686 3 rfl (by rfl) (by decide) rfl ?_
        refine jr_goto X.c 18 dL_law_689 (by decide) ?_
        cases h
        refine jr_sub [1, 2, 3, 0] rfl ?_
        exact kl (x3_18 + (5 : Int32)) V638 rfl
      · replace h := cr_if_f q641 h
        cases h
    replace h := cr_if_f q32_17 h
    by_cases q32_18 : ((xs x3_18.toNatClampNeg) &&& (31 : Int32)) = (18 : Int32)
    · replace h := cr_if_t q32_18 h
      refine jr_tabI X.c (18 : Int32) q32_18 646 dL_law_32 (by decide) (by decide) (by rfl) (by decide) ?_
      refine jr_aload_n X.c dL_law_646 rfl 1 rfl ?_
      obtain ⟨r647, V647, hr647, h⟩ := cr_b2_s h
      refine jc_Vi X.c (As := []) (V1 := V647) (C := RX7) (T := TX7) (N := 5) (ci := 7) 0 (m_X7_readItems l w V_l18   (r647, V647) hr647) ⟨rfl, rfl⟩ ml_L_90 im_X7_readItems sl_X7_readItems in_X7 cd_X7_readItems hd_X7_readItems ⟨Nat.le_of_ble_eq_true rfl, Nat.le_of_ble_eq_true rfl⟩ ⟨Nat.le_of_ble_eq_true rfl, Nat.le_of_ble_eq_true rfl⟩ rfl (Nat.le_of_ble_eq_true rfl) (by decide) ((cr_row_152 w) _) rfl rfl dL_law_647 ?_
      refine jr_aload_n X.c dL_law_650 rfl 2 rfl ?_
      obtain ⟨r651, V651, hr651, h⟩ := cr_b2_s h
      refine jc_Vi X.c (As := []) (V1 := V651) (C := RX8) (T := TX8) (N := 22) (ci := 8) 0 (m_X8_readItems l w V647   (r651, V651) hr651) ⟨rfl, rfl⟩ ml_L_93 im_X8_readItems sl_X8_readItems in_X8 cd_X8_readItems hd_X8_readItems ⟨Nat.le_of_ble_eq_true rfl, Nat.le_of_ble_eq_true rfl⟩ ⟨Nat.le_of_ble_eq_true rfl, Nat.le_of_ble_eq_true rfl⟩ rfl (Nat.le_of_ble_eq_true rfl) (by decide) ((cr_row_159 w) _) rfl rfl dL_law_651 ?_
      refine jr_icmp_eq X.c 686 dL_law_654 (by decide) (fun q654 => ?_) (fun q654 => ?_)
      · replace h := cr_if_t q654 h
        refine jr_iinc X.c (v := (x3_18 + (5 : Int32))) (lv2 := [(3, .int (x3_18 + (5 : Int32))), (0, .ref bs), (1, .ref (w.1 152)), (2, .ref (w.1 159))]) dL_law_686 3 rfl (by rfl) (by decide) rfl ?_
        refine jr_goto X.c 18 dL_law_689 (by decide) ?_
        cases h
        refine jr_sub [1, 2, 3, 0] rfl ?_
        exact kl (x3_18 + (5 : Int32)) V651 rfl
      · replace h := cr_if_f q654 h
        cases h
    replace h := cr_if_f q32_18 h
    by_cases q32_19 : ((xs x3_18.toNatClampNeg) &&& (31 : Int32)) = (19 : Int32)
    · replace h := cr_if_t q32_19 h
      refine jr_tabI X.c (19 : Int32) q32_19 659 dL_law_32 (by decide) (by decide) (by rfl) (by decide) ?_
      refine jr_aload_n X.c dL_law_659 rfl 1 rfl ?_
      obtain ⟨r660, V660, hr660, h⟩ := cr_b2_s h
      refine jc_Vi X.c (As := []) (V1 := V660) (C := RX7) (T := TX7) (N := 5) (ci := 7) 0 (m_X7_undo l w V_l18   (r660, V660) hr660) ⟨rfl, rfl⟩ ml_L_94 im_X7_undo sl_X7_undo in_X7 cd_X7_undo hd_X7_undo ⟨Nat.le_of_ble_eq_true rfl, Nat.le_of_ble_eq_true rfl⟩ ⟨Nat.le_of_ble_eq_true rfl, Nat.le_of_ble_eq_true rfl⟩ rfl (Nat.le_of_ble_eq_true rfl) (by decide) ((cr_row_152 w) _) rfl rfl dL_law_660 ?_
      refine jr_aload_n X.c dL_law_663 rfl 2 rfl ?_
      obtain ⟨r664, V664, hr664, h⟩ := cr_b2_s h
      refine jc_Vi X.c (As := []) (V1 := V664) (C := RX8) (T := TX8) (N := 22) (ci := 8) 0 (m_X8_undo l w V660   (r664, V664) hr664) ⟨rfl, rfl⟩ ml_L_97 im_X8_undo sl_X8_undo in_X8 cd_X8_undo hd_X8_undo ⟨Nat.le_of_ble_eq_true rfl, Nat.le_of_ble_eq_true rfl⟩ ⟨Nat.le_of_ble_eq_true rfl, Nat.le_of_ble_eq_true rfl⟩ rfl (Nat.le_of_ble_eq_true rfl) (by decide) ((cr_row_159 w) _) rfl rfl dL_law_664 ?_
      refine jr_icmp_eq X.c 686 dL_law_667 (by decide) (fun q667 => ?_) (fun q667 => ?_)
      · replace h := cr_if_t q667 h
        refine jr_iinc X.c (v := (x3_18 + (5 : Int32))) (lv2 := [(3, .int (x3_18 + (5 : Int32))), (0, .ref bs), (1, .ref (w.1 152)), (2, .ref (w.1 159))]) dL_law_686 3 rfl (by rfl) (by decide) rfl ?_
        refine jr_goto X.c 18 dL_law_689 (by decide) ?_
        cases h
        refine jr_sub [1, 2, 3, 0] rfl ?_
        exact kl (x3_18 + (5 : Int32)) V664 rfl
      · replace h := cr_if_f q667 h
        cases h
    replace h := cr_if_f q32_19 h
    by_cases q32_20 : ((xs x3_18.toNatClampNeg) &&& (31 : Int32)) = (20 : Int32)
    · replace h := cr_if_t q32_20 h
      refine jr_tabI X.c (20 : Int32) q32_20 672 dL_law_32 (by decide) (by decide) (by rfl) (by decide) ?_
      refine jr_aload_n X.c dL_law_672 rfl 1 rfl ?_
      obtain ⟨r673, hr673, h⟩ := cr_bd_s h
      refine jc_Vl X.c (As := []) (V1 := V_l18) (C := RX7) (T := TX7) (N := 5) (ci := 7) 0 (m_X7_digest l w V_l18   r673 hr673) ⟨rfl, rfl⟩ ml_L_98 im_X7_digest sl_X7_digest in_X7 cd_X7_digest hd_X7_digest ⟨Nat.le_of_ble_eq_true rfl, Nat.le_of_ble_eq_true rfl⟩ ⟨Nat.le_of_ble_eq_true rfl, Nat.le_of_ble_eq_true rfl⟩ rfl (Nat.le_of_ble_eq_true rfl) (by decide) ((cr_row_152 w) _) rfl rfl dL_law_673 ?_
      refine jr_aload_n X.c dL_law_676 rfl 2 rfl ?_
      obtain ⟨r677, hr677, h⟩ := cr_bd_s h
      refine jc_Vl X.c (As := []) (V1 := V_l18) (C := RX8) (T := TX8) (N := 22) (ci := 8) 0 (m_X8_digest l w V_l18   r677 hr677) ⟨rfl, rfl⟩ ml_L_102 im_X8_digest sl_X8_digest in_X8 cd_X8_digest hd_X8_digest ⟨Nat.le_of_ble_eq_true rfl, Nat.le_of_ble_eq_true rfl⟩ ⟨Nat.le_of_ble_eq_true rfl, Nat.le_of_ble_eq_true rfl⟩ rfl (Nat.le_of_ble_eq_true rfl) (by decide) ((cr_row_159 w) _) rfl rfl dL_law_677 ?_
      refine jr_lcmp X.c dL_law_680 ?_
      refine jr_if_eq X.c 686 dL_law_681 (by decide) (fun q681 => ?_) (fun q681 => ?_)
      · replace h := cr_if_t q681 h
        refine jr_iinc X.c (v := (x3_18 + (5 : Int32))) (lv2 := [(3, .int (x3_18 + (5 : Int32))), (0, .ref bs), (1, .ref (w.1 152)), (2, .ref (w.1 159))]) dL_law_686 3 rfl (by rfl) (by decide) rfl ?_
        refine jr_goto X.c 18 dL_law_689 (by decide) ?_
        cases h
        refine jr_sub [1, 2, 3, 0] rfl ?_
        exact kl (x3_18 + (5 : Int32)) V_l18 rfl
      · replace h := cr_if_f q681 h
        cases h
    replace h := cr_if_f q32_20 h
    have w32_0 := cr_tin (n := 0) q32_0 (by decide)
    have w32_1 := cr_tin (n := 1) q32_1 (by decide)
    have w32_2 := cr_tin (n := 2) q32_2 (by decide)
    have w32_3 := cr_tin (n := 3) q32_3 (by decide)
    have w32_4 := cr_tin (n := 4) q32_4 (by decide)
    have w32_5 := cr_tin (n := 5) q32_5 (by decide)
    have w32_6 := cr_tin (n := 6) q32_6 (by decide)
    have w32_7 := cr_tin (n := 7) q32_7 (by decide)
    have w32_8 := cr_tin (n := 8) q32_8 (by decide)
    have w32_9 := cr_tin (n := 9) q32_9 (by decide)
    have w32_10 := cr_tin (n := 10) q32_10 (by decide)
    have w32_11 := cr_tin (n := 11) q32_11 (by decide)
    have w32_12 := cr_tin (n := 12) q32_12 (by decide)
    have w32_13 := cr_tin (n := 13) q32_13 (by decide)
    have w32_14 := cr_tin (n := 14) q32_14 (by decide)
    have w32_15 := cr_tin (n := 15) q32_15 (by decide)
    have w32_16 := cr_tin (n := 16) q32_16 (by decide)
    have w32_17 := cr_tin (n := 17) q32_17 (by decide)
    have w32_18 := cr_tin (n := 18) q32_18 (by decide)
    have w32_19 := cr_tin (n := 19) q32_19 (by decide)
    have w32_20 := cr_tin (n := 20) q32_20 (by decide)
    refine jr_tabO X.c 686 dL_law_32 (by omega) (by decide) ?_
    refine jr_iinc X.c (v := (x3_18 + (5 : Int32))) (lv2 := [(3, .int (x3_18 + (5 : Int32))), (0, .ref bs), (1, .ref (w.1 152)), (2, .ref (w.1 159))]) dL_law_686 3 rfl (by rfl) (by decide) rfl ?_
    refine jr_goto X.c 18 dL_law_689 (by decide) ?_
    cases h
    refine jr_sub [1, 2, 3, 0] rfl ?_
    exact kl (x3_18 + (5 : Int32)) V_l18 rfl
