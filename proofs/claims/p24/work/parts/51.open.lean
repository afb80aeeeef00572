def R_law : String := "ChalkRingsLaw"
def lw_P (b : Addr) (xs : List Int32) (args : Array Value) (s : State) : Prop := args = #[.ref b] ∧ s.IntsAt b xs ∧ xs.length ≤ 260 ∧ (Jvm.Cond.and given_1 narrow_1).before args s = true
def lw_Q (_ : Array Value) (s : State) (o : Outcome) (t : State) : Prop := o = .returned (some (.int 1)) ∧ Framed s o t [] 600000 7302250
def lw_Z (below : List Frame) (a : Array Value) (s : State) : State → Prop := fun t => ∃ o, t.status = .running ∧ Ended t below o ∧ lw_Q a s o t
/-- the law's own end, with 1 on the stack, nothing written that was there before, its room as the claim has it -/
theorem lw_ret {p : Program} {l : Launch} {e : Env} {s : State} {m : MethodId} {below : List Frame} {meth : Method} {c : Code} {b : Nat} (hx : p.tables.exec = Jvm.exec) (hb : c.code = code) (hr : meth.sig.returnType = ret) (hlocks : meth.locks = false) {pc : Nat} {H : Heap} {ls : Array Slot} (hdg : decode code pc = .ok (.ireturn, 1)) : W p l e room_1 s m #[Value.ref b] below meth c H [] 600000 7302250 (lw_Z below #[Value.ref b] s) (F0 m pc ls [.int 1]) := by
  intro T hT X
  obtain ⟨fs, hret, hrun, hended, hW, hframe⟩ := X.leave (v := some (.int 1)) (hlocks := hlocks) (fun h => by rw [hr] at h; cases h)
  have hmeth' : T.vm.method? m = some meth := X.method'
  refine ⟨T.setFrames fs, ?_, .returned (some (.int 1)), hrun, hended, rfl, ⟨_, rfl⟩, hW, hframe⟩
  jvm_step X.here [X.here.top, hx, hb, hdg, hmeth', hr, ret, narrow_b1]
  (try refine ⟨rfl, ?_⟩); (try refine ⟨rfl, ?_⟩)
  first | (intro acts; rw [hret _ acts rfl rfl rfl]) | rw [hret _ _ rfl rfl rfl]
  exact Steps.refl _
/-- what holds at the law's entry: the machine, the code, the tables' words (any of lw_tbl by 'hts w (by decide +kernel)'), the script of L ints xs at the cell b, what the Statement gives of the start (any of its parts by flat_of_before) -/
def lw_At (p : Program) (s : State) (m : MethodId) (meth : Method) (c : Code) (b L : Nat) (xs : Nat → Int32) : Prop :=
  p.tables.exec = Jvm.exec ∧ c.code = code ∧ meth.sig.returnType = ret ∧ c.maxLocals = 19 ∧ s.vm.findClass R_law = some m.cls ∧ (∀ w ∈ lw_tbl, w.before #[Value.ref b] s = true) ∧ va_X b L xs s s.heap ∧ b < s.heap.size ∧ meth.locks = false ∧ (Jvm.Cond.and given_1 narrow_1).before #[Value.ref b] s = true

def cr_goal : Prop := ∀ (nL : Nat) (xs : Nat → Int32), nL ≤ 260 → ∃ V', cr_it (fun (q : Int32 × cr_Hp) => f_L_law_l32 nL xs q.1 q.2) cr_FU (0, cr_V0) = some V'

set_option maxHeartbeats 4000000 in
set_option maxRecDepth 100000 in
/-- the law's first steps and its loop, given that the lifted loop comes to its end -/
theorem whole_open (hgoal : cr_goal) {p : Program} {e : Env} {s : State} {m : MethodId} {below : List Frame} {meth : Method} {c : Code} (l : Launch) {b L : Nat} {xs : Nat → Int32} (hL : L ≤ 260) (C0 : lw_At p s m meth c b L xs) : W p l e room_1 s m #[Value.ref b] below meth c s.heap [] 0 0 (lw_Z below #[Value.ref b] s) (entryFrame m ([Value.ref b] : List Value).toArray 19) := by
  obtain ⟨hx, hb, hr, hml, hown, hts, hX, hbl, hlocks, hgv⟩ := id C0
  have hgs := flat_of_before _ hgv
  have hW : ∀ x ∈ cr_W, x.before #[Value.ref b] s = true := fun x h => hts x (cr_W_t h)
  have hA : ∀ q : Nat, s.heap.size ≤ q → (fun q : Nat => s.heap.size ≤ q) q := fun _ h => h
  obtain ⟨c0, i0, h0⟩ := u_known (C := RX0) (T := TX0) (N := 3) (n := 3) hW cr_in0 (hW _ it_X0)
  obtain ⟨c1, i1, h1⟩ := u_known (C := RX1) (T := TX1) (N := 9) (n := 9) hW cr_in1 (hW _ it_X1)
  obtain ⟨c2, i2, h2⟩ := u_known (C := RX2) (T := TX2) (N := 9) (n := 9) hW cr_in2 (hW _ it_X2)
  obtain ⟨c3, i3, h3⟩ := u_known (C := RX3) (T := TX3) (N := 10) (n := 10) hW cr_in3 (hW _ it_X3)
  obtain ⟨c4, i4, h4⟩ := u_known (C := RX4) (T := TX4) (N := 3) (n := 3) hW cr_in4 (hW _ it_X4)
  obtain ⟨c5, i5, h5⟩ := u_known (C := RX5) (T := TX5) (N := 10) (n := 10) hW cr_in5 (hW _ it_X5)
  obtain ⟨c6, i6, h6⟩ := u_known (C := RX6) (T := TX6) (N := 2) (n := 2) hW cr_in6 (hW _ it_X6)
  obtain ⟨c7, i7, h7⟩ := u_known (C := RX7) (T := TX7) (N := 5) (n := 5) hW cr_in7 (hW _ it_X7)
  obtain ⟨dC, dI, hKc⟩ : ∃ (dC : Nat → ClassId) (dI : Nat → Nat → Nat), ∀ (k : Nat) (q : vw_C), vwCl[k]? = some q → u_Kn s q.1 q.2.1 q.2.2 (dC k) (dI k) := by
    refine ⟨fun k => if k = 0 then c0 else if k = 1 then c1 else if k = 2 then c2 else if k = 3 then c3 else if k = 4 then c4 else if k = 5 then c5 else if k = 6 then c6 else c7, fun k => if k = 0 then i0 else if k = 1 then i1 else if k = 2 then i2 else if k = 3 then i3 else if k = 4 then i4 else if k = 5 then i5 else if k = 6 then i6 else i7, ?_⟩
    intro k q hq
    match k, hq with
    | 0, hq => cases hq; exact h0
    | 1, hq => cases hq; exact h1
    | 2, hq => cases hq; exact h2
    | 3, hq => cases hq; exact h3
    | 4, hq => cases hq; exact h4
    | 5, hq => cases hq; exact h5
    | 6, hq => cases hq; exact h6
    | 7, hq => cases hq; exact h7
    | k + 8, hq => simp [vwCl] at hq
  obtain ⟨a0, k0, p0, f0, g0, j0⟩ := Cond.arrayClass_spec (hW _ ac_int)
  obtain ⟨a1, k1, p1, f1, g1, j1⟩ := Cond.arrayClass_spec (hW _ ac_char)
  have ho2 := hts (.arrayOver (.object "ChalkRings$Marble")) (by decide +kernel)
  have ho3 := hts (.arrayOver (.object "ChalkRings$Ring")) (by decide +kernel)
  have ho4 := hts (.arrayOver (.object "ChalkRings$Playground")) (by decide +kernel)
  obtain ⟨p2, a2, k2, d2, -, g2, j2, f2⟩ := Cond.arrayOver_spec ho2
  obtain ⟨p3, a3, k3, d3, -, g3, j3, f3⟩ := Cond.arrayOver_spec ho3
  obtain ⟨p4, a4, k4, d4, -, g4, j4, f4⟩ := Cond.arrayOver_spec ho4
  obtain ⟨t1, et1, hTt1⟩ := va_Tof (tm := .static "ChalkRings" "STEP_X" "[I") (ty := .int) (N := 8) (f := fun j => .int (cr_sx j)) (A := fun q => s.heap.size ≤ q) (by decide) (hgs _ (by decide +kernel)) (va_eqt (z := 8) (hgs _ (by decide +kernel))) (fun j hj => by
    rcases (show j = 0 ∨ j = 1 ∨ j = 2 ∨ j = 3 ∨ j = 4 ∨ j = 5 ∨ j = 6 ∨ j = 7 by omega) with rfl | rfl | rfl | rfl | rfl | rfl | rfl | rfl
    · exact va_eqt (z := 0) (hgs _ (by decide +kernel))
    · exact va_eqt (z := 1) (hgs _ (by decide +kernel))
    · exact va_eqt (z := 1) (hgs _ (by decide +kernel))
    · exact va_eqt (z := 1) (hgs _ (by decide +kernel))
    · exact va_eqt (z := 0) (hgs _ (by decide +kernel))
    · exact va_eqt (z := -1) (hgs _ (by decide +kernel))
    · exact va_eqt (z := -1) (hgs _ (by decide +kernel))
    · exact va_eqt (z := -1) (hgs _ (by decide +kernel))) (fun a h => Nat.not_le.mpr h)
  have hZt1 := va_Zref (A := fun q => s.heap.size ≤ q) (hts (.laysStatic "ChalkRings" "STEP_X" "[I") (by decide +kernel)) (hW _ in_X7) et1 (fun a h => Nat.not_le.mpr h)
  obtain ⟨t2, et2, hTt2⟩ := va_Tof (tm := .static "ChalkRings" "STEP_Y" "[I") (ty := .int) (N := 8) (f := fun j => .int (cr_sy j)) (A := fun q => s.heap.size ≤ q) (by decide) (hgs _ (by decide +kernel)) (va_eqt (z := 8) (hgs _ (by decide +kernel))) (fun j hj => by
    rcases (show j = 0 ∨ j = 1 ∨ j = 2 ∨ j = 3 ∨ j = 4 ∨ j = 5 ∨ j = 6 ∨ j = 7 by omega) with rfl | rfl | rfl | rfl | rfl | rfl | rfl | rfl
    · exact va_eqt (z := -1) (hgs _ (by decide +kernel))
    · exact va_eqt (z := -1) (hgs _ (by decide +kernel))
    · exact va_eqt (z := 0) (hgs _ (by decide +kernel))
    · exact va_eqt (z := 1) (hgs _ (by decide +kernel))
    · exact va_eqt (z := 1) (hgs _ (by decide +kernel))
    · exact va_eqt (z := 1) (hgs _ (by decide +kernel))
    · exact va_eqt (z := 0) (hgs _ (by decide +kernel))
    · exact va_eqt (z := -1) (hgs _ (by decide +kernel))) (fun a h => Nat.not_le.mpr h)
  have hZt2 := va_Zref (A := fun q => s.heap.size ≤ q) (hts (.laysStatic "ChalkRings" "STEP_Y" "[I") (by decide +kernel)) (hW _ in_X7) et2 (fun a h => Nat.not_le.mpr h)

  obtain ⟨cy, hcy0, hcy1, hcy2, hcy3, hcy4⟩ : ∃ cy : Nat → ClassId, cy 0 = a0 ∧ cy 1 = a1 ∧ cy 2 = a2 ∧ cy 3 = a3 ∧ cy 4 = a4 := ⟨fun k => if k = 0 then a0 else if k = 1 then a1 else if k = 2 then a2 else if k = 3 then a3 else a4, rfl, rfl, rfl, rfl, rfl⟩
  subst hcy0
  subst hcy1
  subst hcy2
  subst hcy3
  subst hcy4
  have hKall : ∀ ad : Nat → Nat, va_K (dC, dI) vwCl (cr_tys (ad, cy, (dC, dI), t1, t2, fun _ => 0, 0, 0, 0, 0, fun _ => 0)) s := by
    intro ad
    refine ⟨hKc, fun k q hq => ?_⟩
    match k, hq with
    | 0, hq => cases hq; exact ⟨fun n z => ⟨fun k h => (by cases h), k0, g0, p0, j0⟩, f0⟩
    | 1, hq => cases hq; exact ⟨fun n z => ⟨fun k h => (by cases h), k1, g1, p1, j1⟩, f1⟩
    | 2, hq => cases hq; exact ⟨fun n z => ⟨fun k h => (by cases h), k2, g2, p2, j2⟩, k2, p2, g2, j2, d2, f2⟩
    | 3, hq => cases hq; exact ⟨fun n z => ⟨fun k h => (by cases h), k3, g3, p3, j3⟩, k3, p3, g3, j3, d3, f3⟩
    | 4, hq => cases hq; exact ⟨fun n z => ⟨fun k h => (by cases h), k4, g4, p4, j4⟩, k4, p4, g4, j4, d4, f4⟩
    | k + 5, hq => simp [cr_tys] at hq
  have hnest : ∀ x ∈ cr_nest, va_Nw x s := by
    have hn : ∀ x ∈ cr_nest, x ∈ lw_tbl := by decide +kernel
    intro x hx
    have h1 := hts x (hn x hx)
    simp only [cr_nest, List.mem_cons, List.not_mem_nil, or_false] at hx
    rcases hx with rfl | rfl | rfl | rfl | rfl | rfl | rfl | rfl | rfl <;> exact va_Nw.of rfl h1
  generalize hw0 : ((fun _ => 0, cy, (dC, dI), t1, t2, fun _ => 0, 0, 0, 0, 0, fun _ => 0) : cr_Wd) = w0
  have hK0 : va_K w0.2.2.1 vwCl (cr_tys w0) s := by rw [← hw0]; exact hKall _
  have X : cr_KX w0 RL (Cond.initialized RX7) cL_law 19 p s m #[Value.ref b] meth c := ⟨hx, hb, hml, hown, fun x h => by
    rcases List.mem_cons.mp h with rfl | h2
    · exact hW _ in_X7
    · exact hW x h2, ⟨hK0, hnest, va_AO.of ho2, va_AO.of ho3, va_AO.of ho4⟩, hlocks⟩
  have hl := lv_entry ([.ref b]) (n := 19) (Nat.le_of_ble_eq_true rfl)
  rw [lg_entry_eq]
  suffices hJ : cr_K w0 (fun q : Nat => s.heap.size ≤ q) 19 p l e room_1 s m #[Value.ref b] below meth c 0 0 (lw_Z below #[Value.ref b] s) [] 0 [(0, .ref b)] [] from
    hJ s.heap [] _ (fun k q h => by simp at h) ⟨fun i j p q h => by simp at h, fun k q h => by simp at h⟩ va_S.rf hl

  refine k_new X (ci := 7) (C := RX7) (T := TX7) (N := 5) (fs := [.null, .null, .null, .null, .null]) hA rfl cr_in7 tyX7 tyX7_ok cl_L_32 it_X7 in_X7 (fun j hj => by rcases (show j = 0 ∨ j = 1 ∨ j = 2 ∨ j = 3 ∨ j = 4 by omega) with rfl | rfl | rfl | rfl | rfl <;> rfl) (Nat.le_of_ble_eq_true rfl) (Nat.le_of_ble_eq_true rfl) dL_law_0 (fun q0 => ?_)
  refine k_dup X dL_law_3 rfl ?_
  refine kc_I X hA (As := []) (wr := []) (e0 := cr_eC0) 0 (mk_X7 l w0 q0) rfl rfl ml_L_61 im_X7_init in_X7 cd_X7_init rfl hk_X7 ⟨(Nat.le_of_ble_eq_true rfl), (Nat.le_of_ble_eq_true rfl)⟩ ⟨(Nat.le_of_ble_eq_true rfl), (Nat.le_of_ble_eq_true rfl)⟩ rfl (Nat.le_of_ble_eq_true rfl) rfl dL_law_4 rfl (fun u => ?_)
  refine k_astore_n X (lv2 := [(1, .ref q0), (0, .ref b)]) dL_law_7 rfl (by decide) rfl ?_
  refine k_ws (ws2 := cr_cw w0 q0 u) rfl ?_
  refine k_bipush X (v := (8 : Int32)) dL_law_8 (by decide) ?_
  refine k_newa X (atype := .int) (N := 8) (cB := w0.2.1 0) (ty := .int) hA 0 rfl ac_int rfl rfl (by decide) (by decide) (by decide) (Nat.le_of_ble_eq_true rfl) (Nat.le_of_ble_eq_true rfl) dL_law_10 (fun r0 => ?_)
  refine k_astore_n X (lv2 := [(2, .ref r0), (1, .ref q0), (0, .ref b)]) dL_law_12 rfl (by decide) rfl ?_
  refine k_bipush X (v := (60 : Int32)) dL_law_13 (by decide) ?_
  refine k_newa X (atype := .int) (N := 60) (cB := w0.2.1 0) (ty := .int) hA 0 rfl ac_int rfl rfl (by decide) (by decide) (by decide) (Nat.le_of_ble_eq_true rfl) (Nat.le_of_ble_eq_true rfl) dL_law_15 (fun r1 => ?_)
  refine k_astore_n X (lv2 := [(3, .ref r1), (2, .ref r0), (1, .ref q0), (0, .ref b)]) dL_law_17 rfl (by decide) rfl ?_
  refine k_bipush X (v := (12 : Int32)) dL_law_18 (by decide) ?_
  refine k_newa X (atype := .int) (N := 12) (cB := w0.2.1 0) (ty := .int) hA 0 rfl ac_int rfl rfl (by decide) (by decide) (by decide) (Nat.le_of_ble_eq_true rfl) (Nat.le_of_ble_eq_true rfl) dL_law_20 (fun r2 => ?_)
  refine k_astore X (lv2 := [(4, .ref r2), (3, .ref r1), (2, .ref r0), (1, .ref q0), (0, .ref b)]) dL_law_22 (by decide) rfl ?_
  refine k_iconst X (v := (5 : Int32)) dL_law_24 (by decide) ?_
  refine k_newa X (atype := .int) (N := 5) (cB := w0.2.1 0) (ty := .int) hA 0 rfl ac_int rfl rfl (by decide) (by decide) (by decide) (Nat.le_of_ble_eq_true rfl) (Nat.le_of_ble_eq_true rfl) dL_law_25 (fun r3 => ?_)
  refine k_astore X (lv2 := [(5, .ref r3), (4, .ref r2), (3, .ref r1), (2, .ref r0), (1, .ref q0), (0, .ref b)]) dL_law_27 (by decide) rfl ?_
  refine k_iconst X (v := (0 : Int32)) dL_law_29 (by decide) ?_
  refine k_istore X (lv2 := [(6, .int 0), (5, .ref r3), (4, .ref r2), (3, .ref r1), (2, .ref r0), (1, .ref q0), (0, .ref b)]) dL_law_30 (by decide) rfl ?_
  refine k_wid (ce2 := cr_ce cr_V0) (sl2 := cr_sl cr_V0) (by unfold cr_ce; exact Nat.le_trans (Nat.le_of_ble_eq_true rfl) (Nat.le_add_right 1000 _)) (by unfold cr_sl; exact Nat.le_trans (Nat.le_of_ble_eq_true rfl) (Nat.le_add_right 10000 _)) ?_
  intro H locs ls hP hD hS hl
  obtain ⟨b1, hb0, hb1, hb2, hb3⟩ : ∃ b1 : Nat → Nat, b1 0 = r0 ∧ b1 1 = r1 ∧ b1 2 = r2 ∧ b1 3 = r3 := ⟨fun k => if k = 0 then r0 else if k = 1 then r1 else if k = 2 then r2 else r3, rfl, rfl, rfl, rfl⟩
  subst hb0 hb1 hb2 hb3
  obtain ⟨w, hw⟩ : ∃ w : cr_Wd, w = (cr_ad q0 u b1, cy, (dC, dI), t1, t2, fun a => if a = 159 then 8 else if a = 160 then 60 else if a = 161 then 12 else 5, 163, s.heap.size, b, L, xs) := ⟨_, rfl⟩
  have hcw : ((((cr_cw w0 q0 u ++ [(b1 0, .inl (w0.2.1 0, 8, .inl (fun _ => 0)))]) ++ [(b1 1, .inl (w0.2.1 0, 60, .inl (fun _ => 0)))]) ++ [(b1 2, .inl (w0.2.1 0, 12, .inl (fun _ => 0)))]) ++ [(b1 3, .inl (w0.2.1 0, 5, .inl (fun _ => 0)))] : va_W) = cr_cw w q0 u ++ cr_dw w b1 := by
    have e1 : cr_cw w0 q0 u = cr_cw w q0 u := by rw [hw, ← hw0]; rfl
    have e2 : w0.2.1 = w.2.1 := by rw [hw, ← hw0]
    rw [e1, e2]
    simp only [List.append_assoc, List.cons_append, List.nil_append]
    rfl
  rw [hcw] at hP hD
  have hD2 : w0.2.2.1 = w.2.2.1 := by rw [hw, ← hw0]
  rw [hD2] at hP
  have hAe : cr_A w = fun q : Nat => s.heap.size ≤ q := by rw [hw]; rfl
  rw [← hAe] at hD hS
  obtain ⟨hPw, hinj⟩ := cr_asm (u := u) (q0 := q0) (b := b1) (by rw [hw]) (by rw [hw]) (by rw [hw]; rfl) (by rw [hw]; rfl) (by rw [hw]; rfl) (by rw [hw]; rfl) hP hD
  have hEv : cr_Ev w s s.heap := by
    subst hw
    obtain ⟨scr, h1, h2, h3, h4, h5⟩ := hX
    exact ⟨hKall (fun _ => 0), hnest, ⟨hZt1, hTt1⟩, ⟨hZt2, hTt2⟩, ⟨scr, h1, h2, h3, Nat.le_of_eq h4.symm, by rw [h4], h5, Nat.not_le.mpr hbl⟩, Nat.le_refl _⟩
  have XL : cr_LX w p s m #[Value.ref b] meth c := ⟨⟨hx, hb, hml, hown, X.2.2.2.2.1, hEv, hinj, hlocks⟩, by rw [hw], by rw [hw]; rfl, by rw [hw]; rfl, by rw [hw]; rfl, by rw [hw]; rfl⟩
  refine va_forget (locs := locs) (fun q hq => by have := hS.2.2 q hq; rw [hAe] at this; exact this) ?_
  have hSw : va_S (cr_A w) s.heap H [] := ⟨hS.1, hS.2.1, fun _ h => by cases h⟩
  have ha152 : w.1 152 = q0 := by rw [hw]; rfl
  have ha0 : w.1 159 = b1 0 := by rw [hw]; rfl
  have ha1 : w.1 160 = b1 1 := by rw [hw]; rfl
  have ha2 : w.1 161 = b1 2 := by rw [hw]; rfl
  have ha3 : w.1 162 = b1 3 := by rw [hw]; rfl
  have hab : cr_zb w = b := by rw [hw]
  rw [← ha152, ← ha0, ← ha1, ← ha2, ← ha3, ← hab] at hl
  have eL : cr_zL w = L := by rw [hw]
  have ex : cr_zx w = xs := by rw [hw]
  obtain ⟨V2, hV2⟩ := hgoal L xs hL
  rw [← eL, ← ex] at hV2
  have kend : cr_J w 19 p l e room_1 s m #[Value.ref b] below meth c (cr_ce V2) (cr_sl V2) (lw_Z below #[Value.ref b] s) V2 1175 [] [] := by
    intro H1 locs1 ls1 hP1 hS1 hl1
    refine va_forget (fun q hq => by have := hS1.2.2 q hq; rw [hAe] at this; exact this) ?_
    refine lv_iconst (v := 1) hx hb dL_law_1175 (by decide) ?_
    exact W.widen (cr_ce_le V2).1 (cr_ce_le V2).2 (lw_ret hx hb hr hlocks dL_law_1176)
  have kloop : cr_J w 19 p l e room_1 s m #[Value.ref b] below meth c (cr_ce cr_V0) (cr_sl cr_V0) (lw_Z below #[Value.ref b] s) cr_V0 32 [(0, .ref (cr_zb w)), (1, .ref (w.1 152)), (2, .ref (w.1 159)), (3, .ref (w.1 160)), (4, .ref (w.1 161)), (5, .ref (w.1 162)), (6, .int 0)] [] := by
    refine cr_it_W (f := (fun (q : Int32 × cr_Hp) => f_L_law_l32 (cr_zL w) (cr_zx w) q.1 q.2)) (P := fun (q : Int32 × cr_Hp) => cr_J w 19 p l e room_1 s m #[Value.ref b] below meth c (cr_ce q.2) (cr_sl q.2) (lw_Z below #[Value.ref b] s) q.2 32 [(0, .ref (cr_zb w)), (1, .ref (w.1 152)), (2, .ref (w.1 159)), (3, .ref (w.1 160)), (4, .ref (w.1 161)), (5, .ref (w.1 162)), (6, .int q.1)] []) (K := fun z => z = V2) (fun q x hx kl kr => ?_) cr_FU (0, cr_V0) V2 hV2 rfl
    obtain ⟨x6, Vl⟩ := q
    exact t_L_law_l32 XL x6 Vl x hx (fun x6 V ez => kl _ ez) (fun V ez => (kr _ ez) ▸ kend)
  exact kloop H [] ls hPw hSw (lv_sub hl [6, 5, 4, 3, 2, 1, 0] rfl)
