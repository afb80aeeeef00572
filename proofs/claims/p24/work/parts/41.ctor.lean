abbrev cr_eM0 : va_E := .inr (2, [.int 0, .int 0, .int 0, .int 0, .int 0, .int 0, .int 0, .int 0, .int 0])
abbrev cr_eM (k : Int32) : va_E := .inr (2, [.int k, .int 0, .int 0, .int 0, .int 0, .int (-1), .int 0, .int 0, .int 0])
abbrev cr_eG : va_E := .inr (4, [.int 0, .int 0, .int 0])
abbrev cr_eR : va_E := .inr (5, [.int 0, .int 0, .int 0, .int 0, .int 0, .int 0, .int 0, .int 0, .int 0, .int 0])
abbrev cr_eT0 : va_E := .inr (6, [.null, .int 0])
abbrev cr_eP0 : va_E := .inr (3, [.null, .null, .int 0, .int 0, .int 0, .int 0, .int 0, .int 0, .int 0, .int 0])
abbrev cr_eH0 : va_E := .inr (0, [.null, .int 0, .int 0])
abbrev cr_eI0 : va_E := .inr (1, [.null, .int 0, .int 0, .int 0, .int 0, .int 0, .int 0, .int 0, .int 0])
abbrev cr_eC0 : va_E := .inr (7, [.null, .null, .null, .null, .null])
def cr_fm (i : Nat) (m : Nat → Nat) : Nat → Option Nat := fun j => if j < i then some (m j) else none
def cr_fam (i : Nat) (B : Nat → va_W) : va_W := (List.range i).flatMap B
theorem cr_fm_s (i : Nat) (m : Nat → Nat) (q : Nat) : va_up (cr_fm i m) i (some q) = cr_fm (i + 1) (va_up m i q) := by
  funext j
  unfold va_up cr_fm
  by_cases h : j = i
  · subst h; simp
  · by_cases h2 : j < i
    · simp [h, h2, Nat.lt_succ_of_lt h2]
    · have : ¬ j < i + 1 := by omega
      simp [h, h2, this]
theorem cr_fm_c {i : Nat} {m m2 : Nat → Nat} (h : ∀ j, j < i → m j = m2 j) : cr_fm i m = cr_fm i m2 := by
  funext j
  unfold cr_fm
  by_cases h2 : j < i
  · rw [if_pos h2, if_pos h2, h j h2]
  · rw [if_neg h2, if_neg h2]
theorem cr_fam_c {i : Nat} {B B2 : Nat → va_W} (h : ∀ j, j < i → B j = B2 j) : cr_fam i B = cr_fam i B2 := by
  induction i with
  | zero => rfl
  | succ n ih =>
    have hs : ∀ C : Nat → va_W, cr_fam (n + 1) C = cr_fam n C ++ C n := fun C => by simp [cr_fam, List.range_succ]
    rw [hs, hs, ih (fun j hj => h j (Nat.lt_succ_of_lt hj)), h n (Nat.lt_succ_self n)]
theorem cr_fam_s (i : Nat) (B : Nat → va_W) (bl : va_W) : cr_fam (i + 1) (va_up B i bl) = cr_fam i B ++ bl := by
  have hs : ∀ C : Nat → va_W, cr_fam (i + 1) C = cr_fam i C ++ C i := fun C => by simp [cr_fam, List.range_succ]
  rw [hs, cr_fam_c (B2 := B) (fun j hj => by simp [va_up, Nat.ne_of_lt hj])]
  simp [va_up]
def cr_wl (q : Nat) (e : va_E) (q1 : Nat) (cA : ClassId) (n : Nat) (Y : va_W) (m : Nat → Nat) (B : Nat → va_W) (i : Nat) : va_W := (q, e) :: (q1, .inl (cA, n, .inr (.inr (.inr (.inr (cr_fm i m)))))) :: (Y ++ cr_fam i B)
theorem cr_wl_s (q : Nat) (e : va_E) (q1 : Nat) (cA : ClassId) (n : Nat) (Y : va_W) (m : Nat → Nat) (B : Nat → va_W) (i q2 : Nat) (bl : va_W) : (cr_wl q e q1 cA n Y m B i ++ bl).set 1 (q1, .inl (cA, n, .inr (.inr (.inr (.inr (va_up (cr_fm i m) i (some q2))))))) = cr_wl q e q1 cA n Y (va_up m i q2) (va_up B i bl) (i + 1) := by
  unfold cr_wl
  rw [cr_fm_s, cr_fam_s]
  simp
theorem cr_wl_g (q : Nat) (e : va_E) (q1 : Nat) (cA : ClassId) (n : Nat) (Y : va_W) (m : Nat → Nat) (B : Nat → va_W) (i : Nat) (x : Nat × va_E) (r : va_W) : (cr_wl q e q1 cA n Y m B i ++ x :: r)[2 + (Y ++ cr_fam i B).length]? = some x := by
  unfold cr_wl
  simp [Nat.add_comm 2]

theorem hk_X2 : yX2_init.cls ≠ "java/lang/invoke/MethodHandle" ∧ yX2_init.cls ≠ "java/lang/invoke/VarHandle" ∧ (parseMethodDescriptor yX2_init.desc).map (fun d => d.parameters.length) = some 1 := by decide +kernel
theorem hk_X0 : yX0_init.cls ≠ "java/lang/invoke/MethodHandle" ∧ yX0_init.cls ≠ "java/lang/invoke/VarHandle" ∧ (parseMethodDescriptor yX0_init.desc).map (fun d => d.parameters.length) = some 0 := by decide +kernel
theorem hk_X1 : yX1_init.cls ≠ "java/lang/invoke/MethodHandle" ∧ yX1_init.cls ≠ "java/lang/invoke/VarHandle" ∧ (parseMethodDescriptor yX1_init.desc).map (fun d => d.parameters.length) = some 0 := by decide +kernel
theorem hk_X3 : yX3_init.cls ≠ "java/lang/invoke/MethodHandle" ∧ yX3_init.cls ≠ "java/lang/invoke/VarHandle" ∧ (parseMethodDescriptor yX3_init.desc).map (fun d => d.parameters.length) = some 0 := by decide +kernel
theorem hk_X4 : yX4_init.cls ≠ "java/lang/invoke/MethodHandle" ∧ yX4_init.cls ≠ "java/lang/invoke/VarHandle" ∧ (parseMethodDescriptor yX4_init.desc).map (fun d => d.parameters.length) = some 0 := by decide +kernel
theorem hk_X5 : yX5_init.cls ≠ "java/lang/invoke/MethodHandle" ∧ yX5_init.cls ≠ "java/lang/invoke/VarHandle" ∧ (parseMethodDescriptor yX5_init.desc).map (fun d => d.parameters.length) = some 0 := by decide +kernel
theorem hk_X6 : yX6_init.cls ≠ "java/lang/invoke/MethodHandle" ∧ yX6_init.cls ≠ "java/lang/invoke/VarHandle" ∧ (parseMethodDescriptor yX6_init.desc).map (fun d => d.parameters.length) = some 0 := by decide +kernel
theorem hk_X7 : yX7_init.cls ≠ "java/lang/invoke/MethodHandle" ∧ yX7_init.cls ≠ "java/lang/invoke/VarHandle" ∧ (parseMethodDescriptor yX7_init.desc).map (fun d => d.parameters.length) = some 0 := by decide +kernel
abbrev rk_X2 : Room := { frames := 1, cells := 0, slots := 0, locals := 12 }
abbrev rk_X4 : Room := { frames := 1, cells := 0, slots := 0, locals := 12 }
abbrev rk_X5 : Room := { frames := 1, cells := 0, slots := 0, locals := 12 }
abbrev rk_X6 : Room := { frames := 1, cells := 1, slots := 80, locals := 12 }
abbrev rk_X1 : Room := { frames := 2, cells := 2, slots := 82, locals := 32 }
abbrev rk_X3 : Room := { frames := 2, cells := 18, slots := 136, locals := 33 }
abbrev rk_X0 : Room := { frames := 3, cells := 115, slots := 882, locals := 54 }
abbrev rk_X7 : Room := { frames := 4, cells := 158, slots := 1278, locals := 75 }
set_option maxRecDepth 100000 in
set_option maxHeartbeats 4000000 in
theorem mk_X2 (l : Launch) (w : cr_Wd) (q : Nat) (k : Int32) : ∀ sz, Met l yX2_init (cr_wds yX2_init cX2_init 2 none) rk_X2 (cr_CP w sz q cr_eM0 [.int k]) (cr_CQ w sz q cr_eM0 (fun (_ : Unit) => [(q, cr_eM k)])) 0 0 (va_A [(q, cr_eM0)] sz) := by
  refine k_met (own := RX2) (lv := [(0, .ref q), (1, .int k)]) (by decide +kernel) rfl rfl (Nat.le_of_ble_eq_true rfl) rfl (fun p e s m args below meth c X hr hin hA => ?_)
  refine k_aload_n X dX2_init_0 rfl 0 rfl ?_
  refine k_obj X ml_X2_3 ⟨(Nat.le_of_ble_eq_true rfl), (Nat.le_of_ble_eq_true rfl)⟩ dX2_init_1 ?_
  refine k_aload_n X dX2_init_4 rfl 0 rfl ?_
  refine k_iload_n X dX2_init_5 rfl 1 rfl ?_
  refine k_putF X (ci := 2) (C := RX2) (T := TX2) (N := 9) (k := 0) (ws2 := [(q, .inr (2, [.int k, .int 0, .int 0, .int 0, .int 0, .int 0, .int 0, .int 0, .int 0]))]) rfl cr_in2 tyX2 tyX2_ok nmX2 0 rfl (Nat.le_of_ble_eq_true rfl) (by decide) rfl hin rfl rfl rfl fl_X2_9 dX2_init_6 rfl ?_
  refine k_aload_n X dX2_init_9 rfl 0 rfl ?_
  refine k_iconst X (v := (-1 : Int32)) dX2_init_10 (by decide) ?_
  refine k_put X (ci := 2) (C := RX2) (T := TX2) (N := 9) (k := 5) (ws2 := [(q, cr_eM k)]) rfl cr_in2 tyX2 tyX2_ok nmX2 0 rfl (Nat.le_of_ble_eq_true rfl) (by decide) rfl rfl rfl fl_X2_15 dX2_init_11 rfl ?_
  exact k_vret X hr dX2_init_14 () rfl
set_option maxRecDepth 100000 in
set_option maxHeartbeats 4000000 in
theorem mk_X4 (l : Launch) (w : cr_Wd) (q : Nat) : ∀ sz, Met l yX4_init (cr_wds yX4_init cX4_init 1 none) rk_X4 (cr_CP w sz q cr_eG []) (cr_CQ w sz q cr_eG (fun (_ : Unit) => [(q, cr_eG)])) 0 0 (va_A [(q, cr_eG)] sz) := by
  refine k_met (own := RX4) (lv := [(0, .ref q)]) (by decide +kernel) rfl rfl (Nat.le_of_ble_eq_true rfl) rfl (fun p e s m args below meth c X hr hin hA => ?_)
  refine k_aload_n X dX4_init_0 rfl 0 rfl ?_
  refine k_obj X ml_X4_3 ⟨(Nat.le_of_ble_eq_true rfl), (Nat.le_of_ble_eq_true rfl)⟩ dX4_init_1 ?_
  exact k_vret X hr dX4_init_4 () rfl
set_option maxRecDepth 100000 in
set_option maxHeartbeats 4000000 in
theorem mk_X5 (l : Launch) (w : cr_Wd) (q : Nat) : ∀ sz, Met l yX5_init (cr_wds yX5_init cX5_init 1 none) rk_X5 (cr_CP w sz q cr_eR []) (cr_CQ w sz q cr_eR (fun (_ : Unit) => [(q, cr_eR)])) 0 0 (va_A [(q, cr_eR)] sz) := by
  refine k_met (own := RX5) (lv := [(0, .ref q)]) (by decide +kernel) rfl rfl (Nat.le_of_ble_eq_true rfl) rfl (fun p e s m args below meth c X hr hin hA => ?_)
  refine k_aload_n X dX5_init_0 rfl 0 rfl ?_
  refine k_obj X ml_X5_3 ⟨(Nat.le_of_ble_eq_true rfl), (Nat.le_of_ble_eq_true rfl)⟩ dX5_init_1 ?_
  exact k_vret X hr dX5_init_4 () rfl
set_option maxRecDepth 100000 in
set_option maxHeartbeats 4000000 in
theorem mk_X6 (l : Launch) (w : cr_Wd) (q : Nat) : ∀ sz, Met l yX6_init (cr_wds yX6_init cX6_init 1 none) rk_X6 (cr_CP w sz q cr_eT0 []) (cr_CQ w sz q cr_eT0 (fun (b : Nat → Nat) => [(q, .inr (6, [.ref (b 0), .int 0])), (b 0, .inl (w.2.1 1, 80, .inl (fun _ => 0)))])) 1 80 (va_A [(q, cr_eT0)] sz) := by
  refine k_met (own := RX6) (lv := [(0, .ref q)]) (by decide +kernel) rfl rfl (Nat.le_of_ble_eq_true rfl) rfl (fun p e s m args below meth c X hr hin hA => ?_)
  refine k_aload_n X dX6_init_0 rfl 0 rfl ?_
  refine k_obj X ml_X6_3 ⟨(Nat.le_of_ble_eq_true rfl), (Nat.le_of_ble_eq_true rfl)⟩ dX6_init_1 ?_
  refine k_aload_n X dX6_init_4 rfl 0 rfl ?_
  refine k_bipush X (v := (80 : Int32)) dX6_init_5 (by decide) ?_
  refine k_newa X (atype := .char) (N := 80) (cB := w.2.1 1) (ty := .char) hA 1 rfl ac_char rfl rfl (by decide) (by decide) (by decide) (Nat.le_of_ble_eq_true rfl) (Nat.le_of_ble_eq_true rfl) dX6_init_7 (fun qa => ?_)
  refine k_wid (ce2 := 1) (sl2 := 80) (Nat.le_of_ble_eq_true rfl) (Nat.le_of_ble_eq_true rfl) ?_
  refine k_putF X (ci := 6) (C := RX6) (T := TX6) (N := 2) (k := 0) (ws2 := [(q, .inr (6, [.ref qa, .int 0])), (qa, .inl (w.2.1 1, 80, .inl (fun _ => 0)))]) rfl cr_in6 tyX6 tyX6_ok nmX6 0 rfl (Nat.le_of_ble_eq_true rfl) (by decide) rfl hin rfl rfl rfl fl_X6_9 dX6_init_9 rfl ?_
  exact k_vret X hr dX6_init_12 (fun _ => qa) rfl
set_option maxRecDepth 100000 in
set_option maxHeartbeats 4000000 in
theorem mk_X1 (l : Launch) (w : cr_Wd) (q : Nat) : ∀ sz, Met l yX1_init (cr_wds yX1_init cX1_init 1 none) rk_X1 (cr_CP w sz q cr_eI0 []) (cr_CQ w sz q cr_eI0 (fun (b : Nat → Nat) => [(q, .inr (1, [.ref (b 0), .int 0, .int 0, .int 0, .int 0, .int 0, .int 0, .int 0, .int 0])), (b 0, .inr (6, [.ref (b 1), .int 0])), (b 1, .inl (w.2.1 1, 80, .inl (fun _ => 0)))])) 2 82 (va_A [(q, cr_eI0)] sz) := by
  refine k_met (own := RX1) (lv := [(0, .ref q)]) (by decide +kernel) rfl rfl (Nat.le_of_ble_eq_true rfl) rfl (fun p e s m args below meth c X hr hin hA => ?_)
  refine k_aload_n X dX1_init_0 rfl 0 rfl ?_
  refine k_obj X ml_X1_3 ⟨(Nat.le_of_ble_eq_true rfl), (Nat.le_of_ble_eq_true rfl)⟩ dX1_init_1 ?_
  refine k_aload_n X dX1_init_4 rfl 0 rfl ?_
  refine k_new X (ci := 6) (C := RX6) (T := TX6) (N := 2) (fs := [.null, .int 0]) hA rfl cr_in6 tyX6 tyX6_ok cl_X1_9 it_X6 in_X6 (fun j hj => by rcases (show j = 0 ∨ j = 1 by omega) with rfl | rfl <;> rfl) (Nat.le_of_ble_eq_true rfl) (Nat.le_of_ble_eq_true rfl) dX1_init_5 (fun q5 => ?_)
  refine k_dup X dX1_init_8 rfl ?_
  refine kc_I X hA (As := []) (wr := [(q, cr_eI0)]) (e0 := cr_eT0) 0 (mk_X6 l w q5) rfl rfl ml_X1_11 im_X6_init in_X6 cd_X6_init rfl hk_X6 ⟨(Nat.le_of_ble_eq_true rfl), (Nat.le_of_ble_eq_true rfl)⟩ ⟨(Nat.le_of_ble_eq_true rfl), (Nat.le_of_ble_eq_true rfl)⟩ rfl (Nat.le_of_ble_eq_true rfl) rfl dX1_init_9 rfl (fun b => ?_)
  refine k_wid (ce2 := 2) (sl2 := 82) (Nat.le_of_ble_eq_true rfl) (Nat.le_of_ble_eq_true rfl) ?_
  refine k_putF X (ci := 1) (C := RX1) (T := TX1) (N := 9) (k := 0) (ws2 := [(q, .inr (1, [.ref q5, .int 0, .int 0, .int 0, .int 0, .int 0, .int 0, .int 0, .int 0])), (q5, .inr (6, [.ref (b 0), .int 0])), (b 0, .inl (w.2.1 1, 80, .inl (fun _ => 0)))]) rfl cr_in1 tyX1 tyX1_ok nmX1 0 rfl (Nat.le_of_ble_eq_true rfl) (by decide) rfl hin rfl rfl rfl fl_X1_12 dX1_init_12 rfl ?_
  exact k_vret X hr dX1_init_15 (fun k => if k = 0 then q5 else b 0) rfl
def cr_bf (q q1 q2 : Nat) (mm rr : Nat → Nat) : Nat → Nat := fun k => if k = 0 then q else if k = 1 then q1 else if k = 2 then q2 else if k < 15 then mm (k - 3) else rr (k - 15)
theorem cr_bf_0 {q q1 q2 : Nat} {mm rr : Nat → Nat} : cr_bf q q1 q2 mm rr 0 = q := rfl
theorem cr_bf_1 {q q1 q2 : Nat} {mm rr : Nat → Nat} : cr_bf q q1 q2 mm rr 1 = q1 := rfl
theorem cr_bf_2 {q q1 q2 : Nat} {mm rr : Nat → Nat} : cr_bf q q1 q2 mm rr 2 = q2 := rfl
theorem cr_bf_3 {q q1 q2 : Nat} {mm rr : Nat → Nat} {j : Nat} (h : j < 12) : cr_bf q q1 q2 mm rr (3 + j) = mm j := by
  unfold cr_bf
  rw [if_neg (by omega), if_neg (by omega), if_neg (by omega), if_pos (by omega), Nat.add_sub_cancel_left]
theorem cr_bf_15 {q q1 q2 : Nat} {mm rr : Nat → Nat} {j : Nat} : cr_bf q q1 q2 mm rr (15 + j) = rr j := by
  unfold cr_bf
  rw [if_neg (by omega), if_neg (by omega), if_neg (by omega), if_neg (by omega), Nat.add_sub_cancel_left]
abbrev cr_eP (q1 q2 : Nat) : va_E := .inr (3, [.ref q1, .ref q2, .int 0, .int 0, .int 0, .int 0, .int 0, .int 0, .int 0, .int 0])
def cr_pgw (w : cr_Wd) (b : Nat → Nat) : va_W := (b 0, cr_eP (b 1) (b 2)) :: (b 2, .inl (w.2.1 3, 4, .inr (.inr (.inr (.inr (cr_fm 4 (fun j => b (15 + j)))))))) :: (((b 1, .inl (w.2.1 2, 12, .inr (.inr (.inr (.inr (cr_fm 12 (fun j => b (3 + j)))))))) :: cr_fam 12 (fun j => [(b (3 + j), cr_eM (nI j))])) ++ cr_fam 4 (fun j => [(b (15 + j), cr_eG)]))
abbrev cr_eP1 (q1 : Nat) : va_E := .inr (3, [.ref q1, .null, .int 0, .int 0, .int 0, .int 0, .int 0, .int 0, .int 0, .int 0])
set_option maxRecDepth 100000 in
set_option maxHeartbeats 4000000 in
theorem kl_marbles {p : Program} {l : Launch} {e : Env} {s : State} {m : MethodId} {args : Array Value} {below : List Frame} {meth : Method} {c : Code} {Q : State → Prop} {w : cr_Wd} {A : Nat → Prop} (X : cr_KX w RX3 (Cond.code yX3_init cX3_init 2 none) cX3_init 2 p s m args meth c) (hA : ∀ x, s.heap.size ≤ x → A x) (q q1 q2 : Nat) (Y : va_W) (kx : ∀ (mm : Nat → Nat) (B : Nat → va_W), (∀ j, j < 12 → B j = [(mm j, cr_eM (nI j))]) → cr_K w A 2 p l e rk_X3 s m args below meth c 13 120 Q (cr_wl q (cr_eP1 q1) q1 (w.2.1 2) 12 Y mm B 12) 44 [(1, .int (nI 12)), (0, .ref q)] []) : ∀ (d i : Nat) (mm : Nat → Nat) (B : Nat → va_W), i + d = 12 → (∀ j, j < i → B j = [(mm j, cr_eM (nI j))]) → cr_K w A 2 p l e rk_X3 s m args below meth c (1 + 1 * i) (12 + 9 * i) Q (cr_wl q (cr_eP1 q1) q1 (w.2.1 2) 12 Y mm B i) 15 [(1, .int (nI i)), (0, .ref q)] [] := by
  intro d
  induction d with
  | zero =>
    intro i mm B hi hB
    have hi : i = 12 := by omega
    subst hi
    refine k_iload_n X dX3_init_15 rfl 0 rfl ?_
    refine k_aload_n X dX3_init_16 rfl 1 rfl ?_
    refine k_get X (ci := 3) (C := RX3) (T := TX3) (N := 10) (k := 0) rfl cr_in3 0 rfl rfl (by decide) fl_X3_11 dX3_init_17 ?_
    refine k_alen X (v := nI 12) 2 rfl 1 rfl rfl dX3_init_20 ?_
    refine k_icmp_ge X 44 dX3_init_21 (by decide) (fun _ => ?_) (fun h => absurd (nI_le (Nat.le_refl _) (by decide)) h)
    exact kx mm B hB
  | succ d ih =>
    intro i mm B hi hB
    have hlt : i < 12 := by omega
    refine k_iload_n X dX3_init_15 rfl 0 rfl ?_
    refine k_aload_n X dX3_init_16 rfl 1 rfl ?_
    refine k_get X (ci := 3) (C := RX3) (T := TX3) (N := 10) (k := 0) rfl cr_in3 0 rfl rfl (by decide) fl_X3_11 dX3_init_17 ?_
    refine k_alen X (v := nI 12) 2 rfl 1 rfl rfl dX3_init_20 ?_
    refine k_icmp_ge X 44 dX3_init_21 (by decide) (fun h => absurd h (nI_ge hlt (by decide))) (fun _ => ?_)
    refine k_aload_n X dX3_init_24 rfl 1 rfl ?_
    refine k_get X (ci := 3) (C := RX3) (T := TX3) (N := 10) (k := 0) rfl cr_in3 0 rfl rfl (by decide) fl_X3_11 dX3_init_25 ?_
    refine k_iload_n X dX3_init_28 rfl 0 rfl ?_
    refine k_new X (ci := 2) (C := RX2) (T := TX2) (N := 9) (fs := [.int 0, .int 0, .int 0, .int 0, .int 0, .int 0, .int 0, .int 0, .int 0]) hA rfl cr_in2 tyX2 tyX2_ok cl_X3_9 it_X2 in_X2 (fun j hj => by rcases (show j = 0 ∨ j = 1 ∨ j = 2 ∨ j = 3 ∨ j = 4 ∨ j = 5 ∨ j = 6 ∨ j = 7 ∨ j = 8 by omega) with rfl | rfl | rfl | rfl | rfl | rfl | rfl | rfl | rfl <;> rfl) (by show _ ≤ 18; omega) (by show _ ≤ 136; omega) dX3_init_29 (fun qn => ?_)
    refine k_dup X dX3_init_32 rfl ?_
    refine k_iload_n X dX3_init_33 rfl 0 rfl ?_
    refine kc_I X hA (As := [.int (nI i)]) (wr := cr_wl q (cr_eP1 q1) q1 (w.2.1 2) 12 Y mm B i) (e0 := cr_eM0) 1 (mk_X2 l w qn (nI i)) rfl rfl ml_X3_17 im_X2_init in_X2 cd_X2_init rfl hk_X2 ⟨(Nat.le_of_ble_eq_true rfl), (Nat.le_of_ble_eq_true rfl)⟩ ⟨by show _ ≤ 18; omega, by show _ ≤ 136; omega⟩ rfl (Nat.le_of_ble_eq_true rfl) rfl dX3_init_34 rfl (fun b => ?_)
    refine k_aast X (ws2 := cr_wl q (cr_eP1 q1) q1 (w.2.1 2) 12 Y (va_up mm i qn) (va_up B i [(qn, cr_eM (nI i))]) (i + 1)) (r := (RX2, TX2, 9)) 2 rfl 1 (2 + (Y ++ cr_fam i B).length) rfl (cr_wl_g _ _ _ _ _ _ _ _ _ _ _) rfl (vp_in_nI hlt (by decide)) dX3_init_37 (by rw [nI_clamp (by omega)]; exact cr_wl_s _ _ _ _ _ _ _ _ _ _ _) ?_
    refine k_iinc X (v := nI (i + 1)) (lv2 := [(1, .int (nI (i + 1))), (0, .ref q)]) dX3_init_38 0 rfl (nI_1 i) (by decide) rfl ?_
    refine k_goto X 15 dX3_init_41 (by decide) ?_
    refine k_wid (ce2 := (1 + 1 * (i + 1))) (sl2 := (12 + 9 * (i + 1))) (by omega) (by omega) ?_
    refine ih (i + 1) _ _ (by omega) (fun j hj => ?_)
    by_cases hji : j = i
    · subst hji
      simp [va_up]
    · have := hB j (by omega)
      simp only [va_up, if_neg hji]
      exact this
set_option maxRecDepth 100000 in
set_option maxHeartbeats 4000000 in
theorem kl_rings {p : Program} {l : Launch} {e : Env} {s : State} {m : MethodId} {args : Array Value} {below : List Frame} {meth : Method} {c : Code} {Q : State → Prop} {w : cr_Wd} {A : Nat → Prop} (X : cr_KX w RX3 (Cond.code yX3_init cX3_init 2 none) cX3_init 2 p s m args meth c) (hA : ∀ x, s.heap.size ≤ x → A x) (q q1 q2 : Nat) (Y : va_W) (kx : ∀ (mm : Nat → Nat) (B : Nat → va_W), (∀ j, j < 4 → B j = [(mm j, cr_eG)]) → cr_K w A 2 p l e rk_X3 s m args below meth c 18 136 Q (cr_wl q (cr_eP q2 q1) q1 (w.2.1 3) 4 Y mm B 4) 82 [(1, .int (nI 4)), (0, .ref q)] []) : ∀ (d i : Nat) (mm : Nat → Nat) (B : Nat → va_W), i + d = 4 → (∀ j, j < i → B j = [(mm j, cr_eG)]) → cr_K w A 2 p l e rk_X3 s m args below meth c (14 + 1 * i) (124 + 3 * i) Q (cr_wl q (cr_eP q2 q1) q1 (w.2.1 3) 4 Y mm B i) 54 [(1, .int (nI i)), (0, .ref q)] [] := by
  intro d
  induction d with
  | zero =>
    intro i mm B hi hB
    have hi : i = 4 := by omega
    subst hi
    refine k_iload_n X dX3_init_54 rfl 0 rfl ?_
    refine k_aload_n X dX3_init_55 rfl 1 rfl ?_
    refine k_get X (ci := 3) (C := RX3) (T := TX3) (N := 10) (k := 1) rfl cr_in3 0 rfl rfl (by decide) fl_X3_22 dX3_init_56 ?_
    refine k_alen X (v := nI 4) 3 rfl 1 rfl rfl dX3_init_59 ?_
    refine k_icmp_ge X 82 dX3_init_60 (by decide) (fun _ => ?_) (fun h => absurd (nI_le (Nat.le_refl _) (by decide)) h)
    exact kx mm B hB
  | succ d ih =>
    intro i mm B hi hB
    have hlt : i < 4 := by omega
    refine k_iload_n X dX3_init_54 rfl 0 rfl ?_
    refine k_aload_n X dX3_init_55 rfl 1 rfl ?_
    refine k_get X (ci := 3) (C := RX3) (T := TX3) (N := 10) (k := 1) rfl cr_in3 0 rfl rfl (by decide) fl_X3_22 dX3_init_56 ?_
    refine k_alen X (v := nI 4) 3 rfl 1 rfl rfl dX3_init_59 ?_
    refine k_icmp_ge X 82 dX3_init_60 (by decide) (fun h => absurd h (nI_ge hlt (by decide))) (fun _ => ?_)
    refine k_aload_n X dX3_init_63 rfl 1 rfl ?_
    refine k_get X (ci := 3) (C := RX3) (T := TX3) (N := 10) (k := 1) rfl cr_in3 0 rfl rfl (by decide) fl_X3_22 dX3_init_64 ?_
    refine k_iload_n X dX3_init_67 rfl 0 rfl ?_
    refine k_new X (ci := 4) (C := RX4) (T := TX4) (N := 3) (fs := [.int 0, .int 0, .int 0]) hA rfl cr_in4 tyX4 tyX4_ok cl_X3_20 it_X4 in_X4 (fun j hj => by rcases (show j = 0 ∨ j = 1 ∨ j = 2 by omega) with rfl | rfl | rfl <;> rfl) (by show _ ≤ 18; omega) (by show _ ≤ 136; omega) dX3_init_68 (fun qn => ?_)
    refine k_dup X dX3_init_71 rfl ?_
    refine kc_IN X hA (As := []) (wr := cr_wl q (cr_eP q2 q1) q1 (w.2.1 3) 4 Y mm B i) (e0 := cr_eG) 0 (mk_X4 l w qn) rfl rfl (host := "ChalkRings") (by decide) im_X4_init in_X4 cd_X4_init rfl hk_X4 ⟨(Nat.le_of_ble_eq_true rfl), (Nat.le_of_ble_eq_true rfl)⟩ ⟨by show _ ≤ 18; omega, by show _ ≤ 136; omega⟩ rfl (Nat.le_of_ble_eq_true rfl) rfl dX3_init_72 rfl (fun b => ?_)
    refine k_aast X (ws2 := cr_wl q (cr_eP q2 q1) q1 (w.2.1 3) 4 Y (va_up mm i qn) (va_up B i [(qn, cr_eG)]) (i + 1)) (r := (RX4, TX4, 3)) 3 rfl 1 (2 + (Y ++ cr_fam i B).length) rfl (cr_wl_g _ _ _ _ _ _ _ _ _ _ _) rfl (vp_in_nI hlt (by decide)) dX3_init_75 (by rw [nI_clamp (by omega)]; exact cr_wl_s _ _ _ _ _ _ _ _ _ _ _) ?_
    refine k_iinc X (v := nI (i + 1)) (lv2 := [(1, .int (nI (i + 1))), (0, .ref q)]) dX3_init_76 0 rfl (nI_1 i) (by decide) rfl ?_
    refine k_goto X 54 dX3_init_79 (by decide) ?_
    refine k_wid (ce2 := (14 + 1 * (i + 1))) (sl2 := (124 + 3 * (i + 1))) (by omega) (by omega) ?_
    refine ih (i + 1) _ _ (by omega) (fun j hj => ?_)
    by_cases hji : j = i
    · subst hji
      simp [va_up]
    · have := hB j (by omega)
      simp only [va_up, if_neg hji]
      exact this
set_option maxRecDepth 100000 in
set_option maxHeartbeats 4000000 in
theorem mk_X3 (l : Launch) (w : cr_Wd) (q : Nat) : ∀ sz, Met l yX3_init (cr_wds yX3_init cX3_init 2 none) rk_X3 (cr_CP w sz q cr_eP0 []) (cr_CQ w sz q cr_eP0 (fun (b : Nat → Nat) => cr_pgw w (va_up b 0 q))) 18 136 (va_A [(q, cr_eP0)] sz) := by
  refine k_met (own := RX3) (lv := [(0, .ref q)]) (by decide +kernel) rfl rfl (Nat.le_of_ble_eq_true rfl) rfl (fun p e s m args below meth c X hr hin hA => ?_)
  refine k_aload_n X dX3_init_0 rfl 0 rfl ?_
  refine k_obj X ml_X3_3 ⟨(Nat.le_of_ble_eq_true rfl), (Nat.le_of_ble_eq_true rfl)⟩ dX3_init_1 ?_
  refine k_aload_n X dX3_init_4 rfl 0 rfl ?_
  refine k_bipush X (v := (12 : Int32)) dX3_init_5 (by decide) ?_
  refine k_newq X (N := 12) (cB := w.2.1 2) (C := RX2) hA 2 rfl cl_X3_9 X.2.2.2.2.2.1.2.2.1 (by decide) (by decide) (by decide) (Nat.le_of_ble_eq_true rfl) (Nat.le_of_ble_eq_true rfl) dX3_init_7 (fun q1 => ?_)
  refine k_wid (ce2 := 1) (sl2 := 12) (Nat.le_of_ble_eq_true rfl) (Nat.le_of_ble_eq_true rfl) ?_
  refine k_putF X (ci := 3) (C := RX3) (T := TX3) (N := 10) (k := 0) (ws2 := (cr_wl q (cr_eP1 q1) q1 (w.2.1 2) 12 [] (fun _ => 0) (fun _ => []) 0)) rfl cr_in3 tyX3 tyX3_ok nmX3 0 rfl (Nat.le_of_ble_eq_true rfl) (by decide) rfl hin rfl rfl rfl fl_X3_11 dX3_init_10 rfl ?_
  refine k_iconst X (v := nI 0) dX3_init_13 (by decide) ?_
  refine k_istore_n X (lv2 := [(1, .int (nI 0)), (0, .ref q)]) dX3_init_14 rfl (by decide) rfl ?_
  refine kl_marbles X hA q q1 0 [] (fun mm B hB => ?_) 12 0 _ _ rfl (fun j hj => absurd hj (Nat.not_lt_zero j))
  refine k_aload_n X dX3_init_44 rfl 1 rfl ?_
  refine k_iconst X (v := (4 : Int32)) dX3_init_45 (by decide) ?_
  refine k_newq X (N := 4) (cB := w.2.1 3) (C := RX4) hA 3 rfl cl_X3_20 X.2.2.2.2.2.1.2.2.2.1 (by decide) (by decide) (by decide) (Nat.le_of_ble_eq_true rfl) (Nat.le_of_ble_eq_true rfl) dX3_init_46 (fun q2 => ?_)
  refine k_wid (ce2 := 14) (sl2 := 124) (Nat.le_of_ble_eq_true rfl) (Nat.le_of_ble_eq_true rfl) ?_
  refine k_putF X (ci := 3) (C := RX3) (T := TX3) (N := 10) (k := 1) (ws2 := ((q, cr_eP q1 q2) :: (q1, .inl (w.2.1 2, 12, .inr (.inr (.inr (.inr (cr_fm 12 mm)))))) :: ([] ++ cr_fam 12 B) ++ [(q2, .inl (w.2.1 3, 4, .inr (.inr (.inr (.inr (fun _ => none))))))])) rfl cr_in3 tyX3 tyX3_ok nmX3 0 rfl (Nat.le_of_ble_eq_true rfl) (by decide) rfl hin rfl rfl rfl fl_X3_22 dX3_init_49 rfl ?_
  refine k_perm (ws2 := cr_wl q (cr_eP q1 q2) q2 (w.2.1 3) 4 ((q1, .inl (w.2.1 2, 12, .inr (.inr (.inr (.inr (cr_fm 12 mm)))))) :: cr_fam 12 B) (fun _ => 0) (fun _ => []) 0) ?_ ?_
  · unfold cr_wl
    simp only [List.nil_append, cr_fam, List.range_zero, List.flatMap_nil, List.append_nil, List.cons_append]
    refine List.Perm.cons _ ?_
    exact (List.perm_append_comm (l₁ := (q1, _) :: _) (l₂ := [_]))
  refine k_iconst X (v := nI 0) dX3_init_52 (by decide) ?_
  refine k_istore_n X (lv2 := [(1, .int (nI 0)), (0, .ref q)]) dX3_init_53 rfl (by decide) rfl ?_
  refine kl_rings X hA q q2 q1 _ (fun rr B2 hB2 => ?_) 4 0 _ _ rfl (fun j hj => absurd hj (Nat.not_lt_zero j))
  refine k_vret X hr dX3_init_82 (cr_bf q q1 q2 mm rr) ?_
  rw [show va_up (cr_bf q q1 q2 mm rr) 0 q = cr_bf q q1 q2 mm rr from by funext k; unfold va_up; split <;> simp_all [cr_bf]]
  unfold cr_wl cr_pgw
  rw [cr_fam_c (B2 := fun j => [(mm j, cr_eM (nI j))]) hB, cr_fam_c (B2 := fun j => [(rr j, cr_eG)]) hB2]
  simp only [cr_bf_15, cr_bf_0, cr_bf_1, cr_bf_2]
  rw [cr_fm_c (i := 12) (m := fun j => cr_bf q q1 q2 mm rr (3 + j)) (m2 := mm) (fun j hj => cr_bf_3 hj)]
  rw [cr_fam_c (i := 12) (B := fun j => [(cr_bf q q1 q2 mm rr (3 + j), cr_eM (nI j))]) (B2 := fun j => [(mm j, cr_eM (nI j))]) (fun j hj => by rw [cr_bf_3 hj])]
  first | rfl | done
abbrev cr_eH (q1 : Nat) : va_E := .inr (0, [.ref q1, .int 0, .int 0])
set_option maxRecDepth 100000 in
set_option maxHeartbeats 4000000 in
theorem kl_saved {p : Program} {l : Launch} {e : Env} {s : State} {m : MethodId} {args : Array Value} {below : List Frame} {meth : Method} {c : Code} {Q : State → Prop} {w : cr_Wd} {A : Nat → Prop} (X : cr_KX w RX0 (Cond.code yX0_init cX0_init 2 none) cX0_init 2 p s m args meth c) (hA : ∀ x, s.heap.size ≤ x → A x) (q q1 q2 : Nat) (Y : va_W) (kx : ∀ (mm : Nat → Nat) (B : Nat → va_W), (∀ j, j < 6 → ∃ bb : Nat → Nat, bb 0 = mm j ∧ B j = cr_pgw w bb) → cr_K w A 2 p l e rk_X0 s m args below meth c 115 882 Q (cr_wl q (cr_eH q1) q1 (w.2.1 4) 6 Y mm B 6) 43 [(1, .int (nI 6)), (0, .ref q)] []) : ∀ (d i : Nat) (mm : Nat → Nat) (B : Nat → va_W), i + d = 6 → (∀ j, j < i → ∃ bb : Nat → Nat, bb 0 = mm j ∧ B j = cr_pgw w bb) → cr_K w A 2 p l e rk_X0 s m args below meth c (1 + 19 * i) (6 + 146 * i) Q (cr_wl q (cr_eH q1) q1 (w.2.1 4) 6 Y mm B i) 15 [(1, .int (nI i)), (0, .ref q)] [] := by
  intro d
  induction d with
  | zero =>
    intro i mm B hi hB
    have hi : i = 6 := by omega
    subst hi
    refine k_iload_n X dX0_init_15 rfl 0 rfl ?_
    refine k_aload_n X dX0_init_16 rfl 1 rfl ?_
    refine k_get X (ci := 0) (C := RX0) (T := TX0) (N := 3) (k := 0) rfl cr_in0 0 rfl rfl (by decide) fl_X0_11 dX0_init_17 ?_
    refine k_alen X (v := nI 6) 4 rfl 1 rfl rfl dX0_init_20 ?_
    refine k_icmp_ge X 43 dX0_init_21 (by decide) (fun _ => ?_) (fun h => absurd (nI_le (Nat.le_refl _) (by decide)) h)
    exact kx mm B hB
  | succ d ih =>
    intro i mm B hi hB
    have hlt : i < 6 := by omega
    refine k_iload_n X dX0_init_15 rfl 0 rfl ?_
    refine k_aload_n X dX0_init_16 rfl 1 rfl ?_
    refine k_get X (ci := 0) (C := RX0) (T := TX0) (N := 3) (k := 0) rfl cr_in0 0 rfl rfl (by decide) fl_X0_11 dX0_init_17 ?_
    refine k_alen X (v := nI 6) 4 rfl 1 rfl rfl dX0_init_20 ?_
    refine k_icmp_ge X 43 dX0_init_21 (by decide) (fun h => absurd h (nI_ge hlt (by decide))) (fun _ => ?_)
    refine k_aload_n X dX0_init_24 rfl 1 rfl ?_
    refine k_get X (ci := 0) (C := RX0) (T := TX0) (N := 3) (k := 0) rfl cr_in0 0 rfl rfl (by decide) fl_X0_11 dX0_init_25 ?_
    refine k_iload_n X dX0_init_28 rfl 0 rfl ?_
    refine k_new X (ci := 3) (C := RX3) (T := TX3) (N := 10) (fs := [.null, .null, .int 0, .int 0, .int 0, .int 0, .int 0, .int 0, .int 0, .int 0]) hA rfl cr_in3 tyX3 tyX3_ok cl_X0_9 it_X3 in_X3 (fun j hj => by rcases (show j = 0 ∨ j = 1 ∨ j = 2 ∨ j = 3 ∨ j = 4 ∨ j = 5 ∨ j = 6 ∨ j = 7 ∨ j = 8 ∨ j = 9 by omega) with rfl | rfl | rfl | rfl | rfl | rfl | rfl | rfl | rfl | rfl <;> rfl) (by show _ ≤ 115; omega) (by show _ ≤ 882; omega) dX0_init_29 (fun qn => ?_)
    refine k_dup X dX0_init_32 rfl ?_
    refine kc_I X hA (As := []) (wr := cr_wl q (cr_eH q1) q1 (w.2.1 4) 6 Y mm B i) (e0 := cr_eP0) 0 (mk_X3 l w qn) rfl rfl ml_X0_17 im_X3_init in_X3 cd_X3_init rfl hk_X3 ⟨(Nat.le_of_ble_eq_true rfl), (Nat.le_of_ble_eq_true rfl)⟩ ⟨by show _ ≤ 115; omega, by show _ ≤ 882; omega⟩ rfl (Nat.le_of_ble_eq_true rfl) rfl dX0_init_33 rfl (fun b => ?_)
    refine k_aast X (ws2 := cr_wl q (cr_eH q1) q1 (w.2.1 4) 6 Y (va_up mm i qn) (va_up B i (cr_pgw w (va_up b 0 qn))) (i + 1)) (r := (RX3, TX3, 10)) 4 rfl 1 (2 + (Y ++ cr_fam i B).length) rfl (cr_wl_g _ _ _ _ _ _ _ _ _ _ _) rfl (vp_in_nI hlt (by decide)) dX0_init_36 (by rw [nI_clamp (by omega)]; exact cr_wl_s _ _ _ _ _ _ _ _ _ _ _) ?_
    refine k_iinc X (v := nI (i + 1)) (lv2 := [(1, .int (nI (i + 1))), (0, .ref q)]) dX0_init_37 0 rfl (nI_1 i) (by decide) rfl ?_
    refine k_goto X 15 dX0_init_40 (by decide) ?_
    refine k_wid (ce2 := (1 + 19 * (i + 1))) (sl2 := (6 + 146 * (i + 1))) (by omega) (by omega) ?_
    refine ih (i + 1) _ _ (by omega) (fun j hj => ?_)
    by_cases hji : j = i
    · subst hji
      refine ⟨va_up b 0 qn, by simp [va_up], by simp [va_up]⟩
    · have := hB j (by omega)
      simp only [va_up, if_neg hji]
      exact this
def cr_hw (w : cr_Wd) (q : Nat) (b : Nat → Nat → Nat) : va_W := (q, cr_eH (b 6 0)) :: (b 6 0, .inl (w.2.1 4, 6, .inr (.inr (.inr (.inr (cr_fm 6 (fun j => b j 0))))))) :: ([] ++ cr_fam 6 (fun j => cr_pgw w (b j)))
set_option maxRecDepth 100000 in
set_option maxHeartbeats 4000000 in
theorem mk_X0 (l : Launch) (w : cr_Wd) (q : Nat) : ∀ sz, Met l yX0_init (cr_wds yX0_init cX0_init 2 none) rk_X0 (cr_CP w sz q cr_eH0 []) (cr_CQ w sz q cr_eH0 (fun (b : Nat → Nat → Nat) => cr_hw w q b)) 115 882 (va_A [(q, cr_eH0)] sz) := by
  refine k_met (own := RX0) (lv := [(0, .ref q)]) (by decide +kernel) rfl rfl (Nat.le_of_ble_eq_true rfl) rfl (fun p e s m args below meth c X hr hin hA => ?_)
  refine k_aload_n X dX0_init_0 rfl 0 rfl ?_
  refine k_obj X ml_X0_3 ⟨(Nat.le_of_ble_eq_true rfl), (Nat.le_of_ble_eq_true rfl)⟩ dX0_init_1 ?_
  refine k_aload_n X dX0_init_4 rfl 0 rfl ?_
  refine k_bipush X (v := (6 : Int32)) dX0_init_5 (by decide) ?_
  refine k_newq X (N := 6) (cB := w.2.1 4) (C := RX3) hA 4 rfl cl_X0_9 X.2.2.2.2.2.1.2.2.2.2 (by decide) (by decide) (by decide) (Nat.le_of_ble_eq_true rfl) (Nat.le_of_ble_eq_true rfl) dX0_init_7 (fun q1 => ?_)
  refine k_wid (ce2 := 1) (sl2 := 6) (Nat.le_of_ble_eq_true rfl) (Nat.le_of_ble_eq_true rfl) ?_
  refine k_putF X (ci := 0) (C := RX0) (T := TX0) (N := 3) (k := 0) (ws2 := (cr_wl q (cr_eH q1) q1 (w.2.1 4) 6 [] (fun _ => 0) (fun _ => []) 0)) rfl cr_in0 tyX0 tyX0_ok nmX0 0 rfl (Nat.le_of_ble_eq_true rfl) (by decide) rfl hin rfl rfl rfl fl_X0_11 dX0_init_10 rfl ?_
  refine k_iconst X (v := nI 0) dX0_init_13 (by decide) ?_
  refine k_istore_n X (lv2 := [(1, .int (nI 0)), (0, .ref q)]) dX0_init_14 rfl (by decide) rfl ?_
  refine kl_saved X hA q q1 0 [] (fun mm B hB => ?_) 6 0 _ _ rfl (fun j hj => absurd hj (Nat.not_lt_zero j))
  have hC : ∀ j, ∃ bb : Nat → Nat, j < 6 → (bb 0 = mm j ∧ B j = cr_pgw w bb) := fun j => by
    by_cases hj : j < 6
    · obtain ⟨bb, h1⟩ := hB j hj
      exact ⟨bb, fun _ => h1⟩
    · exact ⟨fun _ => 0, fun h => absurd h hj⟩
  obtain ⟨bs, hbs⟩ := Classical.axiomOfChoice hC
  refine k_vret X hr dX0_init_43 (fun k => if k = 6 then (fun _ => q1) else bs k) ?_
  unfold cr_wl cr_hw
  rw [cr_fam_c (B2 := fun j => cr_pgw w (bs j)) (fun j hj => (hbs j hj).2), cr_fm_c (m2 := fun j => bs j 0) (fun j hj => (hbs j hj).1.symm)]
  rw [cr_fam_c (i := 6) (B := fun j => cr_pgw w ((fun k => if k = 6 then (fun _ => q1) else bs k) j)) (B2 := fun j => cr_pgw w (bs j)) (fun j hj => by simp [Nat.ne_of_lt hj])]
  rw [cr_fm_c (i := 6) (m := fun j => (fun k => if k = 6 then (fun _ => q1) else bs k) j 0) (m2 := fun j => bs j 0) (fun j hj => by simp [Nat.ne_of_lt hj])]
  first | rfl | done
def cr_cw (w : cr_Wd) (q : Nat) (u : (Nat → Nat) × (Nat → Nat) × (Nat → Nat → Nat) × (Nat → Nat) × (Nat → Nat)) : va_W := (q, .inr (7, [.ref (u.1 0), .ref (u.2.1 0), .ref (u.2.2.2.2 0), .ref (u.2.2.2.2 1), .ref (u.2.2.2.2 2)])) :: ((((cr_pgw w u.1 ++ cr_pgw w u.2.1) ++ [(u.2.2.2.2 0, cr_eR)]) ++ cr_hw w (u.2.2.2.2 1) u.2.2.1) ++ [(u.2.2.2.2 2, .inr (1, [.ref (u.2.2.2.1 0), .int 0, .int 0, .int 0, .int 0, .int 0, .int 0, .int 0, .int 0])), (u.2.2.2.1 0, .inr (6, [.ref (u.2.2.2.1 1), .int 0])), (u.2.2.2.1 1, .inl (w.2.1 1, 80, .inl (fun _ => 0)))])
set_option maxRecDepth 100000 in
set_option maxHeartbeats 4000000 in
theorem mk_X7 (l : Launch) (w : cr_Wd) (q : Nat) : ∀ sz, Met l yX7_init (cr_wds yX7_init cX7_init 1 none) rk_X7 (cr_CP w sz q cr_eC0 []) (cr_CQ w sz q cr_eC0 (fun u => cr_cw w q u)) 158 1278 (va_A [(q, cr_eC0)] sz) := by
  refine k_met (own := RX7) (lv := [(0, .ref q)]) (by decide +kernel) rfl rfl (Nat.le_of_ble_eq_true rfl) rfl (fun p e s m args below meth c X hr hin hA => ?_)
  refine k_aload_n X dX7_init_0 rfl 0 rfl ?_
  refine k_obj X ml_X7_1 ⟨(Nat.le_of_ble_eq_true rfl), (Nat.le_of_ble_eq_true rfl)⟩ dX7_init_1 ?_
  refine k_aload_n X dX7_init_4 rfl 0 rfl ?_
  refine k_new X (ci := 3) (C := RX3) (T := TX3) (N := 10) (fs := [.null, .null, .int 0, .int 0, .int 0, .int 0, .int 0, .int 0, .int 0, .int 0]) hA rfl cr_in3 tyX3 tyX3_ok cl_X7_7 it_X3 in_X3 (fun j hj => by rcases (show j = 0 ∨ j = 1 ∨ j = 2 ∨ j = 3 ∨ j = 4 ∨ j = 5 ∨ j = 6 ∨ j = 7 ∨ j = 8 ∨ j = 9 by omega) with rfl | rfl | rfl | rfl | rfl | rfl | rfl | rfl | rfl | rfl <;> rfl) (Nat.le_of_ble_eq_true rfl) (Nat.le_of_ble_eq_true rfl) dX7_init_5 (fun a1 => ?_)
  refine k_dup X dX7_init_8 rfl ?_
  refine kc_I X hA (As := []) (wr := [(q, cr_eC0)]) (e0 := cr_eP0) 0 (mk_X3 l w a1) rfl rfl ml_X7_9 im_X3_init in_X3 cd_X3_init rfl hk_X3 ⟨(Nat.le_of_ble_eq_true rfl), (Nat.le_of_ble_eq_true rfl)⟩ ⟨(Nat.le_of_ble_eq_true rfl), (Nat.le_of_ble_eq_true rfl)⟩ rfl (Nat.le_of_ble_eq_true rfl) rfl dX7_init_9 rfl (fun b1 => ?_)
  refine k_wid (ce2 := 19) (sl2 := 146) (Nat.le_of_ble_eq_true rfl) (Nat.le_of_ble_eq_true rfl) ?_
  refine k_putF X (ci := 7) (C := RX7) (T := TX7) (N := 5) (k := 0) (ws2 := ((q, .inr (7, [.ref a1, .null, .null, .null, .null])) :: cr_pgw w (va_up b1 0 a1))) rfl cr_in7 tyX7 tyX7_ok nmX7 0 rfl (Nat.le_of_ble_eq_true rfl) (by decide) rfl hin rfl rfl rfl fl_X7_10 dX7_init_12 rfl ?_
  refine k_aload_n X dX7_init_15 rfl 0 rfl ?_
  refine k_new X (ci := 3) (C := RX3) (T := TX3) (N := 10) (fs := [.null, .null, .int 0, .int 0, .int 0, .int 0, .int 0, .int 0, .int 0, .int 0]) hA rfl cr_in3 tyX3 tyX3_ok cl_X7_7 it_X3 in_X3 (fun j hj => by rcases (show j = 0 ∨ j = 1 ∨ j = 2 ∨ j = 3 ∨ j = 4 ∨ j = 5 ∨ j = 6 ∨ j = 7 ∨ j = 8 ∨ j = 9 by omega) with rfl | rfl | rfl | rfl | rfl | rfl | rfl | rfl | rfl | rfl <;> rfl) (Nat.le_of_ble_eq_true rfl) (Nat.le_of_ble_eq_true rfl) dX7_init_16 (fun a2 => ?_)
  refine k_dup X dX7_init_19 rfl ?_
  refine kc_I X hA (As := []) (wr := ((q, .inr (7, [.ref a1, .null, .null, .null, .null])) :: cr_pgw w (va_up b1 0 a1))) (e0 := cr_eP0) 0 (mk_X3 l w a2) rfl rfl ml_X7_9 im_X3_init in_X3 cd_X3_init rfl hk_X3 ⟨(Nat.le_of_ble_eq_true rfl), (Nat.le_of_ble_eq_true rfl)⟩ ⟨(Nat.le_of_ble_eq_true rfl), (Nat.le_of_ble_eq_true rfl)⟩ rfl (Nat.le_of_ble_eq_true rfl) rfl dX7_init_20 rfl (fun b2 => ?_)
  refine k_wid (ce2 := 38) (sl2 := 292) (Nat.le_of_ble_eq_true rfl) (Nat.le_of_ble_eq_true rfl) ?_
  refine k_putF X (ci := 7) (C := RX7) (T := TX7) (N := 5) (k := 1) (ws2 := ((q, .inr (7, [.ref a1, .ref a2, .null, .null, .null])) :: (cr_pgw w (va_up b1 0 a1) ++ cr_pgw w (va_up b2 0 a2)))) rfl cr_in7 tyX7 tyX7_ok nmX7 0 rfl (Nat.le_of_ble_eq_true rfl) (by decide) rfl hin rfl rfl rfl fl_X7_16 dX7_init_23 rfl ?_
  refine k_aload_n X dX7_init_26 rfl 0 rfl ?_
  refine k_new X (ci := 5) (C := RX5) (T := TX5) (N := 10) (fs := [.int 0, .int 0, .int 0, .int 0, .int 0, .int 0, .int 0, .int 0, .int 0, .int 0]) hA rfl cr_in5 tyX5 tyX5_ok cl_X7_19 it_X5 in_X5 (fun j hj => by rcases (show j = 0 ∨ j = 1 ∨ j = 2 ∨ j = 3 ∨ j = 4 ∨ j = 5 ∨ j = 6 ∨ j = 7 ∨ j = 8 ∨ j = 9 by omega) with rfl | rfl | rfl | rfl | rfl | rfl | rfl | rfl | rfl | rfl <;> rfl) (Nat.le_of_ble_eq_true rfl) (Nat.le_of_ble_eq_true rfl) dX7_init_27 (fun a3 => ?_)
  refine k_dup X dX7_init_30 rfl ?_
  refine kc_IN X hA (As := []) (wr := ((q, .inr (7, [.ref a1, .ref a2, .null, .null, .null])) :: (cr_pgw w (va_up b1 0 a1) ++ cr_pgw w (va_up b2 0 a2)))) (e0 := cr_eR) 0 (mk_X5 l w a3) rfl rfl (host := "ChalkRings") (by decide) im_X5_init in_X5 cd_X5_init rfl hk_X5 ⟨(Nat.le_of_ble_eq_true rfl), (Nat.le_of_ble_eq_true rfl)⟩ ⟨(Nat.le_of_ble_eq_true rfl), (Nat.le_of_ble_eq_true rfl)⟩ rfl (Nat.le_of_ble_eq_true rfl) rfl dX7_init_31 rfl (fun b3 => ?_)
  refine k_wid (ce2 := 39) (sl2 := 302) (Nat.le_of_ble_eq_true rfl) (Nat.le_of_ble_eq_true rfl) ?_
  refine k_putF X (ci := 7) (C := RX7) (T := TX7) (N := 5) (k := 2) (ws2 := ((q, .inr (7, [.ref a1, .ref a2, .ref a3, .null, .null])) :: ((cr_pgw w (va_up b1 0 a1) ++ cr_pgw w (va_up b2 0 a2)) ++ [(a3, cr_eR)]))) rfl cr_in7 tyX7 tyX7_ok nmX7 0 rfl (Nat.le_of_ble_eq_true rfl) (by decide) rfl hin rfl rfl rfl fl_X7_22 dX7_init_34 rfl ?_
  refine k_aload_n X dX7_init_37 rfl 0 rfl ?_
  refine k_new X (ci := 0) (C := RX0) (T := TX0) (N := 3) (fs := [.null, .int 0, .int 0]) hA rfl cr_in0 tyX0 tyX0_ok cl_X7_26 it_X0 in_X0 (fun j hj => by rcases (show j = 0 ∨ j = 1 ∨ j = 2 by omega) with rfl | rfl | rfl <;> rfl) (Nat.le_of_ble_eq_true rfl) (Nat.le_of_ble_eq_true rfl) dX7_init_38 (fun a4 => ?_)
  refine k_dup X dX7_init_41 rfl ?_
  refine kc_I X hA (As := []) (wr := ((q, .inr (7, [.ref a1, .ref a2, .ref a3, .null, .null])) :: ((cr_pgw w (va_up b1 0 a1) ++ cr_pgw w (va_up b2 0 a2)) ++ [(a3, cr_eR)]))) (e0 := cr_eH0) 0 (mk_X0 l w a4) rfl rfl ml_X7_28 im_X0_init in_X0 cd_X0_init rfl hk_X0 ⟨(Nat.le_of_ble_eq_true rfl), (Nat.le_of_ble_eq_true rfl)⟩ ⟨(Nat.le_of_ble_eq_true rfl), (Nat.le_of_ble_eq_true rfl)⟩ rfl (Nat.le_of_ble_eq_true rfl) rfl dX7_init_42 rfl (fun b4 => ?_)
  refine k_wid (ce2 := 155) (sl2 := 1187) (Nat.le_of_ble_eq_true rfl) (Nat.le_of_ble_eq_true rfl) ?_
  refine k_putF X (ci := 7) (C := RX7) (T := TX7) (N := 5) (k := 3) (ws2 := ((q, .inr (7, [.ref a1, .ref a2, .ref a3, .ref a4, .null])) :: (((cr_pgw w (va_up b1 0 a1) ++ cr_pgw w (va_up b2 0 a2)) ++ [(a3, cr_eR)]) ++ cr_hw w a4 b4))) rfl cr_in7 tyX7 tyX7_ok nmX7 0 rfl (Nat.le_of_ble_eq_true rfl) (by decide) rfl hin rfl rfl rfl fl_X7_29 dX7_init_45 rfl ?_
  refine k_aload_n X dX7_init_48 rfl 0 rfl ?_
  refine k_new X (ci := 1) (C := RX1) (T := TX1) (N := 9) (fs := [.null, .int 0, .int 0, .int 0, .int 0, .int 0, .int 0, .int 0, .int 0]) hA rfl cr_in1 tyX1 tyX1_ok cl_X7_33 it_X1 in_X1 (fun j hj => by rcases (show j = 0 ∨ j = 1 ∨ j = 2 ∨ j = 3 ∨ j = 4 ∨ j = 5 ∨ j = 6 ∨ j = 7 ∨ j = 8 by omega) with rfl | rfl | rfl | rfl | rfl | rfl | rfl | rfl | rfl <;> rfl) (Nat.le_of_ble_eq_true rfl) (Nat.le_of_ble_eq_true rfl) dX7_init_49 (fun a5 => ?_)
  refine k_dup X dX7_init_52 rfl ?_
  refine kc_I X hA (As := []) (wr := ((q, .inr (7, [.ref a1, .ref a2, .ref a3, .ref a4, .null])) :: (((cr_pgw w (va_up b1 0 a1) ++ cr_pgw w (va_up b2 0 a2)) ++ [(a3, cr_eR)]) ++ cr_hw w a4 b4))) (e0 := cr_eI0) 0 (mk_X1 l w a5) rfl rfl ml_X7_35 im_X1_init in_X1 cd_X1_init rfl hk_X1 ⟨(Nat.le_of_ble_eq_true rfl), (Nat.le_of_ble_eq_true rfl)⟩ ⟨(Nat.le_of_ble_eq_true rfl), (Nat.le_of_ble_eq_true rfl)⟩ rfl (Nat.le_of_ble_eq_true rfl) rfl dX7_init_53 rfl (fun b5 => ?_)
  refine k_wid (ce2 := 158) (sl2 := 1278) (Nat.le_of_ble_eq_true rfl) (Nat.le_of_ble_eq_true rfl) ?_
  refine k_putF X (ci := 7) (C := RX7) (T := TX7) (N := 5) (k := 4) (ws2 := ((q, .inr (7, [.ref a1, .ref a2, .ref a3, .ref a4, .ref a5])) :: ((((cr_pgw w (va_up b1 0 a1) ++ cr_pgw w (va_up b2 0 a2)) ++ [(a3, cr_eR)]) ++ cr_hw w a4 b4) ++ [(a5, .inr (1, [.ref (b5 0), .int 0, .int 0, .int 0, .int 0, .int 0, .int 0, .int 0, .int 0])), (b5 0, .inr (6, [.ref (b5 1), .int 0])), (b5 1, .inl (w.2.1 1, 80, .inl (fun _ => 0)))]))) rfl cr_in7 tyX7 tyX7_ok nmX7 0 rfl (Nat.le_of_ble_eq_true rfl) (by decide) rfl hin rfl rfl rfl fl_X7_36 dX7_init_56 rfl ?_
  exact k_vret X hr dX7_init_59 (va_up b1 0 a1, va_up b2 0 a2, b4, b5, fun k => if k = 0 then a3 else if k = 1 then a4 else a5) rfl
