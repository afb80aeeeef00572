/-! the constructors: worlds as lists that grow -/
section CRKK
variable {p : Program} {l : Launch} {e : Env} {R : Room} {s : State} {m : MethodId} {args : Array Value} {below : List Frame} {meth : Method} {c : Code} {Q : State → Prop} {w : cr_Wd} {A : Nat → Prop} {own : String} {c0 : Cond} {cc : ByteArray} {nL : Nat} {ws : va_W} {pc : Nat} {lv : List (Nat × Value)} {st : List Value} {ce sl : Nat}
def cr_KE (w : cr_Wd) (U : State) : Prop := va_K w.2.2.1 vwCl (cr_tys w) U ∧ (∀ x ∈ cr_nest, va_Nw x U) ∧ va_AO "ChalkRings$Marble" U ∧ va_AO "ChalkRings$Ring" U ∧ va_AO "ChalkRings$Playground" U
theorem cr_KE.warm {w : cr_Wd} {s U : State} (hW : s.WarmedH U.vm) (h : cr_KE w s) : cr_KE w U := ⟨va_K.moved hW.alike h.1, cr_nest_warm hW h.2.1, va_AO.moved hW.alike h.2.2.1, va_AO.moved hW.alike h.2.2.2.1, va_AO.moved hW.alike h.2.2.2.2⟩
def cr_KX (w : cr_Wd) (own : String) (c0 : Cond) (cc : ByteArray) (nL : Nat) (p : Program) (s : State) (m : MethodId) (args : Array Value) (meth : Method) (c : Code) : Prop := p.tables.exec = Jvm.exec ∧ c.code = cc ∧ c.maxLocals = nL ∧ s.vm.findClass own = some m.cls ∧ (∀ x ∈ c0 :: cr_W, x.before args s = true) ∧ cr_KE w s ∧ meth.locks = false
theorem cr_KX.ts (X : cr_KX w own c0 cc nL p s m args meth c) {x : Cond} (h : x ∈ cr_W) : x.before args s = true := X.2.2.2.2.1 x (List.mem_cons_of_mem _ h)
def cr_K (w : cr_Wd) (A : Nat → Prop) (nL : Nat) (p : Program) (l : Launch) (e : Env) (R : Room) (s : State) (m : MethodId) (args : Array Value) (below : List Frame) (meth : Method) (c : Code) (ce sl : Nat) (Q : State → Prop) (ws : va_W) (pc : Nat) (lv : List (Nat × Value)) (st : List Value) : Prop := ∀ (H : Heap) (locs : List Loc) (ls : Array Slot), va_P w.2.2.1 vwCl ws H → va_D A ws → va_S A s.heap H locs → lv_has ls nL lv → W p l e R s m args below meth c H locs ce sl Q (F0 m pc ls st)
theorem k_iconst (X : cr_KX w own c0 cc nL p s m args meth c) {n : Int} {v : Int32} (hdg : decode cc pc = .ok (.iconst n, 1)) (hv : Int32.ofInt n = v) (kk : cr_K w A nL p l e R s m args below meth c ce sl Q ws (pc + 1) lv (.int v :: st)) : cr_K w A nL p l e R s m args below meth c ce sl Q ws pc lv st := fun H locs ls hP hD hS hl => lv_iconst X.1 X.2.1 hdg hv (kk H locs ls hP hD hS hl)
theorem k_bipush (X : cr_KX w own c0 cc nL p s m args meth c) {n : Int} {v : Int32} (hdg : decode cc pc = .ok (.bipush n, 2)) (hv : (Int8.ofInt n).toInt32 = v) (kk : cr_K w A nL p l e R s m args below meth c ce sl Q ws (pc + 2) lv (.int v :: st)) : cr_K w A nL p l e R s m args below meth c ce sl Q ws pc lv st := fun H locs ls hP hD hS hl => lv_bipush X.1 X.2.1 hdg hv (kk H locs ls hP hD hS hl)
theorem k_sipush (X : cr_KX w own c0 cc nL p s m args meth c) {n : Int} {v : Int32} (hdg : decode cc pc = .ok (.sipush n, 3)) (hv : (Int16.ofInt n).toInt32 = v) (kk : cr_K w A nL p l e R s m args below meth c ce sl Q ws (pc + 3) lv (.int v :: st)) : cr_K w A nL p l e R s m args below meth c ce sl Q ws pc lv st := fun H locs ls hP hD hS hl => lv_sipush X.1 X.2.1 hdg hv (kk H locs ls hP hD hS hl)
theorem k_iload_n (X : cr_KX w own c0 cc nL p s m args meth c) {k : Fin 4} {i : Nat} {x : Int32} (hdg : decode cc pc = .ok (.iload_n k, 1)) (hi : (k : Nat) = i) (j : Nat) (hk : lv[j]? = some (i, .int x)) (kk : cr_K w A nL p l e R s m args below meth c ce sl Q ws (pc + 1) lv (.int x :: st)) : cr_K w A nL p l e R s m args below meth c ce sl Q ws pc lv st := fun H locs ls hP hD hS hl => lv_iload_n X.1 X.2.1 hdg hi (lv_at hl j hk) (kk H locs ls hP hD hS hl)
theorem k_aload_n (X : cr_KX w own c0 cc nL p s m args meth c) {k : Fin 4} {i : Nat} {x : Nat} (hdg : decode cc pc = .ok (.aload_n k, 1)) (hi : (k : Nat) = i) (j : Nat) (hk : lv[j]? = some (i, .ref x)) (kk : cr_K w A nL p l e R s m args below meth c ce sl Q ws (pc + 1) lv (.ref x :: st)) : cr_K w A nL p l e R s m args below meth c ce sl Q ws pc lv st := fun H locs ls hP hD hS hl => lv_aload_n X.1 X.2.1 hdg hi (lv_at hl j hk) (kk H locs ls hP hD hS hl)
theorem k_istore_n (X : cr_KX w own c0 cc nL p s m args meth c) {k : Fin 4} {i : Nat} {x : Int32} {lv2 : List (Nat × Value)} (hdg : decode cc pc = .ok (.istore_n k, 1)) (hi : (k : Nat) = i) (hn : i < nL) (h2 : (i, Value.int x) :: lv.filter (fun q => !(q.1 == i) && !(q.1 + 1 == i && q.2.category == 2)) = lv2) (kk : cr_K w A nL p l e R s m args below meth c ce sl Q ws (pc + 1) lv2 st) : cr_K w A nL p l e R s m args below meth c ce sl Q ws pc lv (.int x :: st) := fun H locs ls hP hD hS hl => lv_istore_n X.1 X.2.1 hdg hi hl hn h2 (fun ls2 hl2 => kk H locs ls2 hP hD hS hl2)
theorem k_astore_n (X : cr_KX w own c0 cc nL p s m args meth c) {k : Fin 4} {i : Nat} {x : Nat} {lv2 : List (Nat × Value)} (hdg : decode cc pc = .ok (.astore_n k, 1)) (hi : (k : Nat) = i) (hn : i < nL) (h2 : (i, Value.ref x) :: lv.filter (fun q => !(q.1 == i) && !(q.1 + 1 == i && q.2.category == 2)) = lv2) (kk : cr_K w A nL p l e R s m args below meth c ce sl Q ws (pc + 1) lv2 st) : cr_K w A nL p l e R s m args below meth c ce sl Q ws pc lv (.ref x :: st) := fun H locs ls hP hD hS hl => lv_astore_n X.1 X.2.1 hdg hi hl hn h2 (fun ls2 hl2 => kk H locs ls2 hP hD hS hl2)
theorem k_iinc (X : cr_KX w own c0 cc nL p s m args meth c) {i : Nat} {n : Int} {x v : Int32} {lv2 : List (Nat × Value)} (hdg : decode cc pc = .ok (.iinc i n, 3)) (j : Nat) (hk : lv[j]? = some (i, .int x)) (hv : x + Int32.ofInt n = v) (hn : i < nL) (h2 : (i, Value.int v) :: lv.filter (fun q => !(q.1 == i) && !(q.1 + 1 == i && q.2.category == 2)) = lv2) (kk : cr_K w A nL p l e R s m args below meth c ce sl Q ws (pc + 3) lv2 st) : cr_K w A nL p l e R s m args below meth c ce sl Q ws pc lv st := fun H locs ls hP hD hS hl => lv_iinc X.1 X.2.1 hdg hl hk hv hn h2 (fun ls2 hl2 => kk H locs ls2 hP hD hS hl2)
theorem k_dup (X : cr_KX w own c0 cc nL p s m args meth c) {v : Value} (hdg : decode cc pc = .ok (.dup, 1)) (hv : v.category = 1) (kk : cr_K w A nL p l e R s m args below meth c ce sl Q ws (pc + 1) lv (v :: v :: st)) : cr_K w A nL p l e R s m args below meth c ce sl Q ws pc lv (v :: st) := fun H locs ls hP hD hS hl => lv_dup X.1 X.2.1 hdg hv (kk H locs ls hP hD hS hl)
theorem k_goto (X : cr_KX w own c0 cc nL p s m args meth c) {off : Int} (tgt : Nat) (hdg : decode cc pc = .ok (.goto off, 3)) (ht : (pc : Int) + off = (tgt : Int)) (kk : cr_K w A nL p l e R s m args below meth c ce sl Q ws tgt lv st) : cr_K w A nL p l e R s m args below meth c ce sl Q ws pc lv st := fun H locs ls hP hD hS hl => lv_goto X.1 X.2.1 hdg ht (kk H locs ls hP hD hS hl)
theorem k_icmp_ge (X : cr_KX w own c0 cc nL p s m args meth c) {x y : Int32} {off : Int} (tgt : Nat) (hdg : decode cc pc = .ok (.if_icmp .ge off, 3)) (ht : (pc : Int) + off = (tgt : Int)) (kt : y ≤ x → cr_K w A nL p l e R s m args below meth c ce sl Q ws tgt lv st) (kf : ¬ y ≤ x → cr_K w A nL p l e R s m args below meth c ce sl Q ws (pc + 3) lv st) : cr_K w A nL p l e R s m args below meth c ce sl Q ws pc lv (.int y :: .int x :: st) := fun H locs ls hP hD hS hl => lv_icmp_ge X.1 X.2.1 hdg ht (fun q => kt q H locs ls hP hD hS hl) (fun q => kf q H locs ls hP hD hS hl)
theorem k_sub {lv2 : List (Nat × Value)} (ks : List Nat) (h : lv_pick lv ks = lv2) (kk : cr_K w A nL p l e R s m args below meth c ce sl Q ws pc lv2 st) : cr_K w A nL p l e R s m args below meth c ce sl Q ws pc lv st := fun H locs ls hP hD hS hl => kk H locs ls hP hD hS (lv_sub hl ks h)
theorem k_ws {ws2 : va_W} (h : ws = ws2) (kk : cr_K w A nL p l e R s m args below meth c ce sl Q ws2 pc lv st) : cr_K w A nL p l e R s m args below meth c ce sl Q ws pc lv st := h ▸ kk
theorem k_wid {ce2 sl2 : Nat} (h1 : ce ≤ ce2) (h2 : sl ≤ sl2) (kk : cr_K w A nL p l e R s m args below meth c ce2 sl2 Q ws pc lv st) : cr_K w A nL p l e R s m args below meth c ce sl Q ws pc lv st := fun H locs ls hP hD hS hl => W.widen h1 h2 (kk H locs ls hP hD hS hl)
theorem cr_Pm {D : va_G} {cl : List vw_C} {ws : va_W} {H : Heap} : va_P D cl ws H ↔ ∀ q ∈ ws, va_at D cl q H := by
  constructor
  · intro h q hq
    obtain ⟨k, hk⟩ := List.getElem?_of_mem hq
    exact h k q hk
  · intro h k q hk
    exact h q (List.mem_of_getElem? hk)
theorem cr_Dm {A : Nat → Prop} {ws : va_W} : va_D A ws ↔ (ws.map (·.1)).Nodup ∧ ∀ q ∈ ws, A q.1 := by
  constructor
  · intro h
    refine ⟨?_, fun q hq => ?_⟩
    · unfold List.Nodup
      rw [List.pairwise_iff_getElem]
      intro i j hi hj hij he
      rw [List.length_map] at hi hj
      rw [List.getElem_map, List.getElem_map] at he
      have := h.1 i j _ _ (List.getElem?_eq_getElem hi) (List.getElem?_eq_getElem hj) he
      omega
    · obtain ⟨k, hk⟩ := List.getElem?_of_mem hq
      exact h.2 k q hk
  · intro h
    refine ⟨fun i j x y hi hj hxy => ?_, fun k q hk => h.2 q (List.mem_of_getElem? hk)⟩
    have hn := h.1
    unfold List.Nodup at hn
    rw [List.pairwise_iff_getElem] at hn
    obtain ⟨li, ei⟩ := List.getElem?_eq_some_iff.mp hi
    obtain ⟨lj, ej⟩ := List.getElem?_eq_some_iff.mp hj
    rcases Nat.lt_trichotomy i j with q | q | q
    · exact absurd (by rw [List.getElem_map, List.getElem_map, ei, ej]; exact hxy) (hn i j (by rw [List.length_map]; exact li) (by rw [List.length_map]; exact lj) q)
    · exact q
    · exact absurd (by rw [List.getElem_map, List.getElem_map, ei, ej]; exact hxy.symm) (hn j i (by rw [List.length_map]; exact lj) (by rw [List.length_map]; exact li) q)
theorem cr_Pp {D : va_G} {cl : List vw_C} {ws ws2 : va_W} {H : Heap} (h : ws.Perm ws2) (hP : va_P D cl ws H) : va_P D cl ws2 H := cr_Pm.mpr (fun q hq => cr_Pm.mp hP q (h.mem_iff.mpr hq))
theorem cr_Dp {A : Nat → Prop} {ws ws2 : va_W} (h : ws.Perm ws2) (hD : va_D A ws) : va_D A ws2 := cr_Dm.mpr ⟨((h.map (·.1)).nodup_iff).mp (cr_Dm.mp hD).1, fun q hq => (cr_Dm.mp hD).2 q (h.mem_iff.mpr hq)⟩
theorem k_perm {ws2 : va_W} (h : ws.Perm ws2) (kk : cr_K w A nL p l e R s m args below meth c ce sl Q ws2 pc lv st) : cr_K w A nL p l e R s m args below meth c ce sl Q ws pc lv st := fun H locs ls hP hD hS hl => kk H locs ls (cr_Pp h hP) (cr_Dp h hD) hS hl
theorem k_get (X : cr_KX w own c0 cc nL p s m args meth c) {ci : Nat} {C : String} {T : u_T} {N idx a k : Nat} {fs : List Value} {v : Value} (hc : vwCl[ci]? = some (C, T, N)) (hin : ∀ x ∈ u_ws C T N, x ∈ cr_W) (q0 : Nat) (hr : ws[q0]? = some (a, .inr (ci, fs))) (hv : fs[k]? = some v) (hk : k < N) (hlink : Cond.fieldLink own idx (T k).1 (T k).2.1 (T k).2.2.1 ∈ cr_W) (hdg : decode cc pc = .ok (.getfield idx, 3)) (kk : cr_K w A nL p l e R s m args below meth c ce sl Q ws (pc + 3) lv (v :: st)) : cr_K w A nL p l e R s m args below meth c ce sl Q ws pc lv (.ref a :: st) := fun H locs ls hP hD hS hl => va_get X.1 X.2.1 (fun _ h => X.ts h) hin X.2.2.2.1 X.2.2.2.2.2.1.1 hP q0 hr hc k hk (X.ts hlink) (fun _ h => h) hv hdg (kk H locs ls hP hD hS hl)
theorem k_put (X : cr_KX w own c0 cc nL p s m args meth c) {ci : Nat} {C : String} {T : u_T} {N idx a k : Nat} {fs : List Value} {v : Value} {ws2 : va_W} (hc : vwCl[ci]? = some (C, T, N)) (hin : ∀ x ∈ u_ws C T N, x ∈ cr_W) (ty0 : Nat → FieldType) (hty : ∀ k, k < N → parseFieldDescriptor (T k).2.2.1 = some (ty0 k)) (hnm : ∀ a, a < N → ∀ b, b < N → a ≠ b → (T a).2.1 ≠ (T b).2.1) (q0 : Nat) (hr : ws[q0]? = some (a, .inr (ci, fs))) (hl0 : k < fs.length) (hk : k < N) (hfin : (T k).2.2.2 = false) (hn : narrow (ty0 k) v = v) (hfit : fits (ty0 k) v = true) (hlink : Cond.fieldLink own idx (T k).1 (T k).2.1 (T k).2.2.1 ∈ cr_W) (hdg : decode cc pc = .ok (.putfield idx, 3)) (hws : ws.set q0 (a, .inr (ci, fs.set k v)) = ws2) (kk : cr_K w A nL p l e R s m args below meth c ce sl Q ws2 (pc + 3) lv st) : cr_K w A nL p l e R s m args below meth c ce sl Q ws pc lv (v :: .ref a :: st) := fun H locs ls hP hD hS hl => va_put X.1 X.2.1 (fun _ h => X.ts h) hin ty0 hty hnm X.2.2.2.1 X.2.2.2.2.2.1.1 hP hD hS q0 hr hc k hk (X.ts hlink) (fun _ h => h) hfin (hty k hk) hn hfit hl0 hdg (fun H1 locs1 hP1 hD1 hS1 => kk H1 locs1 ls (hws ▸ hP1) (hws ▸ hD1) hS1 hl)
theorem k_putF (X : cr_KX w own c0 cc nL p s m args meth c) {ci : Nat} {C : String} {T : u_T} {N idx a k : Nat} {fs : List Value} {v : Value} {ws2 : va_W} (hc : vwCl[ci]? = some (C, T, N)) (hin : ∀ x ∈ u_ws C T N, x ∈ cr_W) (ty0 : Nat → FieldType) (hty : ∀ k, k < N → parseFieldDescriptor (T k).2.2.1 = some (ty0 k)) (hnm : ∀ a, a < N → ∀ b, b < N → a ≠ b → (T a).2.1 ≠ (T b).2.1) (q0 : Nat) (hr : ws[q0]? = some (a, .inr (ci, fs))) (hl0 : k < fs.length) (hk : k < N) (hfin : (T k).2.2.2 = true) (hin2 : meth.name = "<init>") (hdecl : (T k).1 = own) (hn : narrow (ty0 k) v = v) (hfit : fits (ty0 k) v = true) (hlink : Cond.fieldLink own idx (T k).1 (T k).2.1 (T k).2.2.1 ∈ cr_W) (hdg : decode cc pc = .ok (.putfield idx, 3)) (hws : ws.set q0 (a, .inr (ci, fs.set k v)) = ws2) (kk : cr_K w A nL p l e R s m args below meth c ce sl Q ws2 (pc + 3) lv st) : cr_K w A nL p l e R s m args below meth c ce sl Q ws pc lv (v :: .ref a :: st) := fun H locs ls hP hD hS hl => va_putF X.1 X.2.1 (fun _ h => X.ts h) hin ty0 hty hnm X.2.2.2.1 X.2.2.2.2.2.1.1 hP hD hS q0 hr hc k hk (X.ts hlink) (fun _ h => h) hfin hin2 hdecl (hty k hk) hn hfit hl0 hdg (fun H1 locs1 hP1 hD1 hS1 => kk H1 locs1 ls (hws ▸ hP1) (hws ▸ hD1) hS1 hl)
theorem k_alen (X : cr_KX w own c0 cc nL p s m args meth c) {a : Nat} {x : vp_A} {ty : FieldType} {v : Int32} (t0 : Nat) {cA : ClassId} (ht : (cr_tys w)[t0]? = some (cA, ty)) (q0 : Nat) (hr : ws[q0]? = some (a, .inl (cA, x))) (hv : Int32.ofNat x.1 = v) (hdg : decode cc pc = .ok (.arraylength, 1)) (kk : cr_K w A nL p l e R s m args below meth c ce sl Q ws (pc + 1) lv (.int v :: st)) : cr_K w A nL p l e R s m args below meth c ce sl Q ws pc lv (.ref a :: st) := fun H locs ls hP hD hS hl => va_alen X.1 X.2.1 X.2.2.2.2.2.1.1 hP q0 t0 hr ht hv hdg (kk H locs ls hP hD hS hl)
theorem k_iast (X : cr_KX w own c0 cc nL p s m args meth c) {a n : Nat} {i x : Int32} {f : Nat → Int32} {ws2 : va_W} (q0 : Nat) (hr : ws[q0]? = some (a, .inl (w.2.1 0, n, .inl f))) (hin : cr_ix i n) (hdg : decode cc pc = .ok (.iastore, 1)) (hws : ws.set q0 (a, .inl (w.2.1 0, n, .inl (upd f i.toNatClampNeg x))) = ws2) (kk : cr_K w A nL p l e R s m args below meth c ce sl Q ws2 (pc + 1) lv st) : cr_K w A nL p l e R s m args below meth c ce sl Q ws pc lv (.int x :: .int i :: .ref a :: st) := fun H locs ls hP hD hS hl => va_iast X.1 X.2.1 X.2.2.2.2.2.1.1 hP hD hS q0 0 hr rfl hin hdg (fun H1 locs1 hP1 hD1 hS1 => kk H1 locs1 ls (hws ▸ hP1) (hws ▸ hD1) hS1 hl)
theorem k_aast (X : cr_KX w own c0 cc nL p s m args meth c) {a n v ci : Nat} {r : vw_C} {vs : List Value} {i : Int32} {f : Nat → Option Nat} {ws2 : va_W} (t0 : Nat) {cA : ClassId} (ht : (cr_tys w)[t0]? = some (cA, .object r.1)) (q0 qk : Nat) (hr : ws[q0]? = some (a, .inl (cA, n, .inr (.inr (.inr (.inr f)))))) (hv : ws[qk]? = some (v, .inr (ci, vs))) (hc : vwCl[ci]? = some r) (hin : cr_ix i n) (hdg : decode cc pc = .ok (.aastore, 1)) (hws : ws.set q0 (a, .inl (cA, n, .inr (.inr (.inr (.inr (va_up f i.toNatClampNeg (some v))))))) = ws2) (kk : cr_K w A nL p l e R s m args below meth c ce sl Q ws2 (pc + 1) lv st) : cr_K w A nL p l e R s m args below meth c ce sl Q ws pc lv (.ref v :: .int i :: .ref a :: st) := fun H locs ls hP hD hS hl => va_astq X.1 X.2.1 X.2.2.2.2.2.1.1 hP hD hS q0 t0 qk ci hr ht hv hc hin hdg (fun H1 locs1 hP1 hD1 hS1 => kk H1 locs1 ls (hws ▸ hP1) (hws ▸ hD1) hS1 hl)
theorem k_new (X : cr_KX w own c0 cc nL p s m args meth c) {ci : Nat} {C : String} {T : u_T} {N idx : Nat} {fs : List Value} (hA : ∀ q, s.heap.size ≤ q → A q) (hc : vwCl[ci]? = some (C, T, N)) (hin : ∀ x ∈ u_ws C T N, x ∈ cr_W) (ty0 : Nat → FieldType) (hty : ∀ k, k < N → parseFieldDescriptor (T k).2.2.1 = some (ty0 k)) (h1 : Cond.classLink own idx C ∈ cr_W) (h2 : Cond.instantiable C N ∈ cr_W) (h3 : Cond.initialized C ∈ cr_W) (hfs : ∀ j, j < N → defaultValue (ty0 j) = vp_V fs j) (hcells : ce + 1 ≤ R.cells) (hslots : sl + N ≤ R.slots) (hdg : decode cc pc = .ok (.new idx, 3)) (kk : ∀ q, cr_K w A nL p l e R s m args below meth c (ce + 1) (sl + N) Q (ws ++ [(q, .inr (ci, fs))]) (pc + 3) lv (.ref q :: st)) : cr_K w A nL p l e R s m args below meth c ce sl Q ws pc lv st := fun H locs ls hP hD hS hl => va_new X.1 X.2.1 (fun _ h => X.ts h) hin ty0 hty X.2.2.2.1 (X.ts h1) (X.ts h2) (X.ts h3) X.2.2.2.2.2.1.1 hP hD hS hA hc hfs hcells hslots hdg (fun q H1 hP1 hD1 hS1 => kk q H1 locs ls hP1 hD1 hS1 hl)
theorem cr_RAu {U : State} {t : FieldType} {c1 c2 : ClassId} (h1 : va_RA U c1 t) (h2 : va_RA U c2 t) : c1 = c2 := by
  cases t with
  | object C =>
    obtain ⟨_, _, _, _, _, a⟩ := h1
    obtain ⟨_, _, _, _, _, b⟩ := h2
    exact Option.some.inj (a.symm.trans b)
  | _ => exact Option.some.inj (Eq.trans (Eq.symm h1) h2)
theorem cr_tyu {D : va_G} {U : State} {t : FieldType} {cA cB : ClassId} {i : Nat} (hK : va_K D vwCl (cr_tys w ++ [(cA, t)]) U) (hi : (cr_tys w)[i]? = some (cB, t)) : cA = cB := cr_RAu (hK.2 5 (cA, t) rfl).2 (hK.2 i (cB, t) (by
  have hl : i < (cr_tys w).length := (List.getElem?_eq_some_iff.mp hi).1
  rw [List.getElem?_append_left hl]; exact hi)).2
theorem k_newa (X : cr_KX w own c0 cc nL p s m args meth c) {atype : ArrayType} {ty : FieldType} {n : Int32} {N : Nat} {cB : ClassId} (hA : ∀ q, s.heap.size ≤ q → A q) (i : Nat) (hi : (cr_tys w)[i]? = some (cB, ty)) (h1 : Cond.arrayClass (newarray.typeOf atype) ∈ cr_W) (hty : newarray.typeOf atype = ty) (hdv : defaultValue ty = .int 0) (hn : ¬ n < 0) (hN : n.toNatClampNeg = N) (hbytes : N * componentBytes ty ≤ 536870912) (hcells : ce + 1 ≤ R.cells) (hslots : sl + N ≤ R.slots) (hdg : decode cc pc = .ok (.newarray atype, 2)) (kk : ∀ q, cr_K w A nL p l e R s m args below meth c (ce + 1) (sl + N) Q (ws ++ [(q, .inl (cB, N, .inl (fun _ => 0)))]) (pc + 2) lv (.ref q :: st)) : cr_K w A nL p l e R s m args below meth c ce sl Q ws pc lv (.int n :: st) := fun H locs ls hP hD hS hl => va_newa X.1 X.2.1 (X.ts h1) hty X.2.2.2.2.2.1.1 hP hD hS hA (a0 := (N, .inl (fun _ => 0))) (fun cA => by rw [hdv]; rfl) hn hN hbytes hcells hslots hdg (fun q cA H1 hK1 hP1 hD1 hS1 => kk q H1 locs ls (cr_tyu hK1 hi ▸ hP1) (cr_tyu hK1 hi ▸ hD1) hS1 hl)
theorem k_newq (X : cr_KX w own c0 cc nL p s m args meth c) {C : String} {idx : Nat} {n : Int32} {N : Nat} {cB : ClassId} (hA : ∀ q, s.heap.size ≤ q → A q) (i : Nat) (hi : (cr_tys w)[i]? = some (cB, .object C)) (h1 : Cond.classLink own idx C ∈ cr_W) (h2 : va_AO C s) (hn : ¬ n < 0) (hN : n.toNatClampNeg = N) (hbytes : N * 4 ≤ 536870912) (hcells : ce + 1 ≤ R.cells) (hslots : sl + N ≤ R.slots) (hdg : decode cc pc = .ok (.anewarray idx, 3)) (kk : ∀ q, cr_K w A nL p l e R s m args below meth c (ce + 1) (sl + N) Q (ws ++ [(q, .inl (cB, N, .inr (.inr (.inr (.inr (fun _ => none))))))]) (pc + 3) lv (.ref q :: st)) : cr_K w A nL p l e R s m args below meth c ce sl Q ws pc lv (.int n :: st) := fun H locs ls hP hD hS hl => va_newq X.1 X.2.1 X.2.2.2.1 (X.ts h1) h2 X.2.2.2.2.2.1.1 hP hD hS hA hn hN hbytes hcells hslots hdg (fun q cA H1 hK1 hP1 hD1 hS1 => kk q H1 locs ls (cr_tyu hK1 hi ▸ hP1) (cr_tyu hK1 hi ▸ hD1) hS1 hl)
theorem k_obj (X : cr_KX w own c0 cc nL p s m args meth c) {idx a : Nat} (h1 : Cond.methodLink own idx objectInit ∈ cr_W) (hR : 1 ≤ R.frames ∧ (st.map fun v => v.category).sum + 12 ≤ R.locals) (hdg : decode cc pc = .ok (.invokespecial idx, 3)) (kk : cr_K w A nL p l e R s m args below meth c ce sl Q ws (pc + 3) lv st) : cr_K w A nL p l e R s m args below meth c ce sl Q ws pc lv (.ref a :: st) := fun H locs ls hP hD hS hl => W.objInit X.1 X.2.1 X.2.2.2.1 (X.ts h1) (X.ts im_objI) (X.ts cd_objI) rfl (by rw [X.2.2.1]; exact hl.1) rfl hdg hR.1 (by show 2 * 0 + _ + 12 ≤ _; rw [Nat.mul_zero, Nat.zero_add]; exact hR.2) (kk H locs ls hP hD hS hl)
def cr_CP (w : cr_Wd) (sz q : Nat) (e0 : va_E) (As : List Value) : Array Value → State → Prop := va_Pc (.ref q :: As) (fun U => U.heap.size = sz ∧ va_P w.2.2.1 vwCl [(q, e0)] U.heap ∧ cr_KE w U)
def cr_CQ {S : Type} (w : cr_Wd) (sz q : Nat) (e0 : va_E) (W1 : S → va_W) : Array Value → State → Outcome → State → Prop := va_Qv (fun (_ : S) => True) (fun b t => va_P w.2.2.1 vwCl (W1 b) t.heap ∧ va_D (va_A [(q, e0)] sz) (W1 b)) (va_A [(q, e0)] sz)
theorem cr_CPb {w : cr_Wd} {sz q : Nat} {e0 : va_E} {As : List Value} : FrameBlind (cr_CP w sz q e0 As) := by
  intro a U g mk h
  exact ⟨h.1, h.2.1, h.2.2.1, cr_KE.warm (s := U) (U := U.calling g mk a) (State.WarmedH.refl _) h.2.2.2⟩
theorem cr_jn {D : va_G} {wr w1 : va_W} {q : Nat} {e0 : va_E} {H H1 : Heap} (hP : va_P D vwCl (wr ++ [(q, e0)]) H) (hD : va_D A (wr ++ [(q, e0)])) (hk : ∀ x : Nat, x < H.size → ¬ va_A [(q, e0)] H.size x → H1[x]? = H[x]?) (hF : ∀ x, va_A [(q, e0)] H.size x → A x) (hP1 : va_P D vwCl w1 H1) (hD1 : va_D (va_A [(q, e0)] H.size) w1) : va_P D vwCl (wr ++ w1) H1 ∧ va_D A (wr ++ w1) := by
  have hn := (cr_Dm.mp hD).1
  have out : ∀ x ∈ wr, x.1 < H.size ∧ ¬ va_A [(q, e0)] H.size x.1 := by
    intro x hx
    have hl := (cr_Pm.mp hP x (List.mem_append_left _ hx)).lt
    refine ⟨hl, fun h => ?_⟩
    rcases h with ⟨k, e, h⟩ | h
    · have he : x.1 = q := by
        have := List.mem_of_getElem? h
        simp at this
        exact this.1
      rw [List.map_append, List.nodup_append] at hn
      exact hn.2.2 x.1 (List.mem_map_of_mem hx) q (by simp) he
    · omega
  refine ⟨cr_Pm.mpr (fun x hx => ?_), cr_Dm.mpr ⟨?_, fun x hx => ?_⟩⟩
  · rcases List.mem_append.mp hx with h | h
    · exact (cr_Pm.mp hP x (List.mem_append_left _ h)).kept (hk x.1 (out x h).1 (out x h).2)
    · exact cr_Pm.mp hP1 x h
  · rw [List.map_append, List.nodup_append] at hn ⊢
    refine ⟨hn.1, (cr_Dm.mp hD1).1, fun a ha b hb hab => ?_⟩
    obtain ⟨x, hx, rfl⟩ := List.mem_map.mp ha
    obtain ⟨y, hy, rfl⟩ := List.mem_map.mp hb
    exact (out x hx).2 (hab ▸ (cr_Dm.mp hD1).2 y hy)
  · rcases List.mem_append.mp hx with h | h
    · exact (cr_Dm.mp hD).2 x (List.mem_append_left _ h)
    · exact hF x.1 ((cr_Dm.mp hD1).2 x h)
theorem kc_I (X : cr_KX w own c0 cc nL p s m args meth c) (hA : ∀ q, s.heap.size ≤ q → A q) {y : MethodName} {bytes : ByteArray} {maxL idx mc ms : Nat} {rm : Room} {e0 : va_E} {S : Type} {W1 : S → va_W} {q : Nat} {As stk : List Value} {wr : va_W} (n : Nat) (hM : ∀ sz, Met l y (cr_wds y bytes maxL none) rm (cr_CP w sz q e0 As) (cr_CQ w sz q e0 W1) mc ms (va_A [(q, e0)] sz)) (hrc : rm.cells = mc) (hrs : rm.slots = ms) (h1 : Cond.methodLink own idx y ∈ cr_W) (h2 : Cond.instanceMethod y ∈ cr_W) (h4 : Cond.initialized y.cls ∈ cr_W) (h5 : Cond.code y bytes maxL none ∈ cr_W) (hy1 : y.name = "<init>") (hd : y.cls ≠ "java/lang/invoke/MethodHandle" ∧ y.cls ≠ "java/lang/invoke/VarHandle" ∧ (parseMethodDescriptor y.desc).map (fun d => d.parameters.length) = some n) (hR : rm.frames + 1 ≤ R.frames ∧ 8 + (maxL + 11) + rm.locals ≤ R.locals) (hcs : ce + mc ≤ R.cells ∧ sl + ms ≤ R.slots) (hn : As.length = n) (hcat : (st.map fun v => v.category).sum ≤ 8) (hst : stk = As.reverse ++ .ref q :: st) (hdg : decode cc pc = .ok (.invokespecial idx, 3)) (hws : ws = wr ++ [(q, e0)]) (kk : ∀ b, cr_K w A nL p l e R s m args below meth c (ce + mc) (sl + ms) Q (wr ++ W1 b) (pc + 3) lv st) : cr_K w A nL p l e R s m args below meth c ce sl Q ws pc lv stk := fun H locs ls hP hD hS hl => by
  subst hst
  subst hws
  have hPc : va_P w.2.2.1 vwCl [(q, e0)] H := cr_Pm.mpr (fun x hx => cr_Pm.mp hP x (List.mem_append_right _ hx))
  have hFc : ∀ x, va_A [(q, e0)] H.size x → A x := by
    intro x h
    rcases h with ⟨k, e, h⟩ | h
    · have := List.mem_of_getElem? h
      exact (cr_Dm.mp hD).2 (x, e) (List.mem_append_right _ this)
    · exact hA x (Nat.le_trans hS.1 h)
  refine va_callv (A0 := A) (A1 := va_A [(q, e0)] H.size) (va_runI (As := As) (rest := st) ⟨X.1, X.2.1, X.2.2.1, X.2.2.2.1, X.2.2.2.2.1⟩ (hM H.size) (cwI n X.2.2.2.2.1 (cr_goodc h5) rfl hrc hrs (X.ts h4) (X.ts h1) (X.ts h2) hy1 hd hR) ⟨cr_CPb, fun U hU hW => ⟨rfl, by rw [hU], by rw [hU]; exact hPc, cr_KE.warm hW X.2.2.2.2.2.1⟩⟩ rfl hn hl.1 rfl (lv_room hcat) hdg hcs) hS (fun x _ h => hFc x h) hFc (fun u t H1 locs1 ht hvm hw hB hz hk hS1 => ?_)
  obtain ⟨hP1, hD1⟩ : va_P w.2.2.1 vwCl (W1 u) t.heap ∧ va_D (va_A [(q, e0)] H.size) (W1 u) := hB
  rw [ht] at hP1
  have hj := cr_jn hP hD hk hFc hP1 hD1
  exact kk u H1 locs1 ls hj.1 hj.2 hS1 hl
theorem kc_IN (X : cr_KX w own c0 cc nL p s m args meth c) (hA : ∀ q, s.heap.size ≤ q → A q) {y : MethodName} {bytes : ByteArray} {maxL idx mc ms : Nat} {rm : Room} {e0 : va_E} {S : Type} {W1 : S → va_W} {q : Nat} {As stk : List Value} {wr : va_W} (n : Nat) (hM : ∀ sz, Met l y (cr_wds y bytes maxL none) rm (cr_CP w sz q e0 As) (cr_CQ w sz q e0 W1) mc ms (va_A [(q, e0)] sz)) (hrc : rm.cells = mc) (hrs : rm.slots = ms) {host : String} (h1 : Cond.methodLinkNest own idx y host ∈ cr_nest) (h2 : Cond.instanceMethod y ∈ cr_W) (h4 : Cond.initialized y.cls ∈ cr_W) (h5 : Cond.code y bytes maxL none ∈ cr_W) (hy1 : y.name = "<init>") (hd : y.cls ≠ "java/lang/invoke/MethodHandle" ∧ y.cls ≠ "java/lang/invoke/VarHandle" ∧ (parseMethodDescriptor y.desc).map (fun d => d.parameters.length) = some n) (hR : rm.frames + 1 ≤ R.frames ∧ 8 + (maxL + 11) + rm.locals ≤ R.locals) (hcs : ce + mc ≤ R.cells ∧ sl + ms ≤ R.slots) (hn : As.length = n) (hcat : (st.map fun v => v.category).sum ≤ 8) (hst : stk = As.reverse ++ .ref q :: st) (hdg : decode cc pc = .ok (.invokespecial idx, 3)) (hws : ws = wr ++ [(q, e0)]) (kk : ∀ b, cr_K w A nL p l e R s m args below meth c (ce + mc) (sl + ms) Q (wr ++ W1 b) (pc + 3) lv st) : cr_K w A nL p l e R s m args below meth c ce sl Q ws pc lv stk := fun H locs ls hP hD hS hl => by
  subst hst
  subst hws
  have hPc : va_P w.2.2.1 vwCl [(q, e0)] H := cr_Pm.mpr (fun x hx => cr_Pm.mp hP x (List.mem_append_right _ hx))
  have hFc : ∀ x, va_A [(q, e0)] H.size x → A x := by
    intro x h
    rcases h with ⟨k, e, h⟩ | h
    · have := List.mem_of_getElem? h
      exact (cr_Dm.mp hD).2 (x, e) (List.mem_append_right _ this)
    · exact hA x (Nat.le_trans hS.1 h)
  refine va_callv (A0 := A) (A1 := va_A [(q, e0)] H.size) (va_runIN (As := As) (rest := st) ⟨X.1, X.2.1, X.2.2.1, X.2.2.2.1, X.2.2.2.2.1⟩ (hM H.size) ⟨va_cnB n X.2.2.2.2.1 (cr_goodc h5) rfl hrc hrs (X.2.2.2.2.2.1.2.1 _ h1) (X.ts h4) hd hR, hy1, X.ts h2⟩ ⟨cr_CPb, fun U hU hW => ⟨rfl, by rw [hU], by rw [hU]; exact hPc, cr_KE.warm hW X.2.2.2.2.2.1⟩⟩ rfl hn hl.1 rfl (lv_room hcat) hdg hcs) hS (fun x _ h => hFc x h) hFc (fun u t H1 locs1 ht hvm hw hB hz hk hS1 => ?_)
  obtain ⟨hP1, hD1⟩ : va_P w.2.2.1 vwCl (W1 u) t.heap ∧ va_D (va_A [(q, e0)] H.size) (W1 u) := hB
  rw [ht] at hP1
  have hj := cr_jn hP hD hk hFc hP1 hD1
  exact kk u H1 locs1 ls hj.1 hj.2 hS1 hl
theorem k_vret (X : cr_KX w own c0 cc nL p s m args meth c) {q : Nat} {e0 : va_E} {S : Type} {W1 : S → va_W} (hr : meth.sig.returnType = none) (hdg : decode cc pc = .ok (.return_, 1)) (b : S) (hws : ws = W1 b) : cr_K w (va_A [(q, e0)] s.heap.size) nL p l e R s m args below meth c ce sl (MQ below (cr_CQ w s.heap.size q e0 W1) args s ce sl (va_A [(q, e0)] s.heap.size)) ws pc lv [] := fun H locs ls hP hD hS hl => W.vret X.1 X.2.1 hr (fun t ht _ => ⟨⟨b, rfl, trivial, by rw [ht, ← hws]; exact hP, by rw [← hws]; exact hD⟩, hS.F ht⟩) hS.2.2 hdg X.2.2.2.2.2.2
theorem k_met {l : Launch} {y : MethodName} {own : String} {bytes : ByteArray} {maxL : Nat} {rm : Room} {w : cr_Wd} {As : List Value} {lv : List (Nat × Value)} {q : Nat} {e0 : va_E} {S : Type} {W1 : S → va_W} {mc ms : Nat} (hy : plainName y.cls = true) (hy1 : y.name = "<init>") (ho : y.cls = own) (hlen : (lg_sl (.ref q :: As)).length ≤ maxL) (hlv : lv_args 0 (.ref q :: As) = lv)
    (body : ∀ p e s m args below meth c, cr_KX w own (Cond.code y bytes maxL none) bytes maxL p s m args meth c → meth.sig.returnType = none → meth.name = "<init>" → (∀ x, s.heap.size ≤ x → va_A [(q, e0)] s.heap.size x) → cr_K w (va_A [(q, e0)] s.heap.size) maxL p l e rm s m args below meth c 0 0 (MQ below (cr_CQ w s.heap.size q e0 W1) args s mc ms (va_A [(q, e0)] s.heap.size)) [(q, e0)] 0 lv []) : ∀ sz, Met l y (cr_wds y bytes maxL none) rm (cr_CP w sz q e0 As) (cr_CQ w sz q e0 W1) mc ms (va_A [(q, e0)] sz) := by
  intro sz
  refine Met.ofW (cc := bytes) (maxL := maxL) (ret := none) hy rfl ?_
  intro p e s m args below meth c s₁ B hml hv
  obtain ⟨rfl, hsz, hP, hE⟩ := hv
  subst hsz
  have hl := lv_entry (.ref q :: As) (n := maxL) hlen
  rw [hlv] at hl
  rw [lg_entry_eq]
  exact body p e s m _ below meth c ⟨B.exec, B.bytes, hml, by rw [← ho]; exact findClass_of_methodNamed B.named, atoms_spec B.pre, hE, B.notSynchronized⟩ B.returns ((name_of_methodNamed B.named B.method).1.trans hy1) (fun x h => Or.inr h) s.heap [] _ hP (cr_Dm.mpr ⟨by simp, fun x hx => by simp at hx; rw [hx]; exact Or.inl ⟨0, e0, rfl⟩⟩) va_S.rf hl
end CRKK
