/-! new arrays: a world that grows; the law's room -/
theorem cr_RAu {U : State} {t : FieldType} {c1 c2 : ClassId} (h1 : va_RA U c1 t) (h2 : va_RA U c2 t) : c1 = c2 := by
  cases t with
  | object C =>
    obtain ⟨_, _, _, _, _, a⟩ := h1
    obtain ⟨_, _, _, _, _, b⟩ := h2
    exact Option.some.inj (a.symm.trans b)
  | _ => exact Option.some.inj (Eq.trans (Eq.symm h1) h2)
theorem cr_tyu {w : cr_Wd} {D : va_G} {U : State} {t : FieldType} {cA cB : ClassId} {i : Nat} (hK : va_K D vwCl (cr_tys w ++ [(cA, t)]) U) (hi : (cr_tys w)[i]? = some (cB, t)) : cA = cB := cr_RAu (hK.2 5 (cA, t) rfl).2 (hK.2 i (cB, t) (by
  have hl : i < (cr_tys w).length := (List.getElem?_eq_some_iff.mp hi).1
  rw [List.getElem?_append_left hl]; exact hi)).2
/-- one world holds more cells than another -/
def cr_ext (w w2 : cr_Wd) : Prop := 159 ≤ cr_zn w ∧ cr_zn w ≤ cr_zn w2 ∧ (∀ a, a < cr_zn w → w2.1 a = w.1 a ∧ cr_zl w2 a = cr_zl w a) ∧ w2.2.1 = w.2.1 ∧ w2.2.2.1 = w.2.2.1 ∧ cr_z0 w2 = cr_z0 w
theorem cr_atx {D : va_G} {cl : List vw_C} {q : Nat} {cA : ClassId} {n : Nat} {f g : Nat → Option Nat} {H : Heap} (h : ∀ j, j < n → f j = g j) (hv : va_at D cl (q, .inl (cA, n, .inr (.inr (.inr (.inr f))))) H) : va_at D cl (q, .inl (cA, n, .inr (.inr (.inr (.inr g))))) H := by
  have hv2 : H[q]? = some (vp_cell cA (n, .inr (.inr (.inr (.inr f))))) := hv
  show H[q]? = some (vp_cell cA (n, .inr (.inr (.inr (.inr g)))))
  rw [hv2, vp_cell_q, vp_cell_q]
  refine congrArg some ?_
  unfold arrV
  congr 1
  apply congrArg
  funext j
  show va_rf (f j.val) = va_rf (g j.val)
  rw [h j.val j.isLt]
theorem cr_rowx {w w2 : cr_Wd} {a : Nat} (hf : ∀ b, b < 159 → w2.1 b = w.1 b) (hc : w2.2.1 = w.2.1) (hl : cr_zl w2 a = cr_zl w a) {r : Nat → Int32} {D : va_G} {q : Nat} {H : Heap} (hv : va_at D vwCl (q, cr_row w a r) H) : va_at D vwCl (q, cr_row w2 a r) H := by
  by_cases h : a < 152
  · by_cases h0 : a % 19 = 0
    · rw [cr_row_pg w ⟨h, h0⟩] at hv
      rw [cr_row_pg w2 ⟨h, h0⟩, hf (a + 1) (by omega), hf (a + 2) (by omega)]
      exact hv
    by_cases h1 : a % 19 = 1
    · rw [cr_row_ms w ⟨h, h1⟩] at hv
      rw [cr_row_ms w2 ⟨h, h1⟩, hc]
      exact cr_atx (fun j hj => by rw [hf (a + 2 + j) (by omega)]) hv
    by_cases h2 : a % 19 = 2
    · rw [cr_row_rs w ⟨h, h2⟩] at hv
      rw [cr_row_rs w2 ⟨h, h2⟩, hc]
      exact cr_atx (fun j hj => by rw [hf (a + 13 + j) (by omega)]) hv
    by_cases h3 : a % 19 < 15
    · have hm : cr_ma a := ⟨h, by omega, h3⟩
      rw [cr_row_ma w hm] at hv
      rw [cr_row_ma w2 hm]
      exact hv
    · have hm : cr_rg a := ⟨h, by omega⟩
      rw [cr_row_rg w hm] at hv
      rw [cr_row_rg w2 hm]
      exact hv
  · by_cases h2 : a < 159
    · rcases (show a = 152 ∨ a = 153 ∨ a = 154 ∨ a = 155 ∨ a = 156 ∨ a = 157 ∨ a = 158 by omega) with rfl | rfl | rfl | rfl | rfl | rfl | rfl
      · rw [cr_row_152] at hv ⊢
        rw [hf 0 (by omega), hf 19 (by omega), hf 153 (by omega), hf 154 (by omega), hf 156 (by omega)]; exact hv
      · rw [cr_row_153] at hv ⊢; exact hv
      · rw [cr_row_154] at hv ⊢; rw [hf 155 (by omega)]; exact hv
      · rw [cr_row_155] at hv ⊢; rw [hc]
        exact cr_atx (fun j hj => by rw [hf (38 + 19 * j) (by omega)]) hv
      · rw [cr_row_156] at hv ⊢; rw [hf 157 (by omega)]; exact hv
      · rw [cr_row_157] at hv ⊢; rw [hf 158 (by omega)]; exact hv
      · rw [cr_row_158] at hv ⊢; rw [hc]; exact hv
    · rw [cr_row_big w (by omega)] at hv
      rw [cr_row_big w2 (by omega), hl, hc]
      exact hv
theorem cr_Pi {D : va_G} {w : cr_Wd} {V : cr_Hp} {H : Heap} : va_P D vwCl (cr_ws w V) H ↔ ∀ a, a < cr_zn w → va_at D vwCl (w.1 a, cr_row w a (V a)) H := by
  constructor
  · intro h a ha
    exact h a _ (cr_get w V ha rfl)
  · intro h k q hk
    have hl : k < cr_zn w := by
      have := (List.getElem?_eq_some_iff.mp hk).1
      simpa [cr_ws] using this
    rw [cr_get w V hl rfl] at hk
    cases hk
    exact h k hl
theorem cr_ext.P {w w2 : cr_Wd} (h : cr_ext w w2) {V : cr_Hp} {D : va_G} {H : Heap} (hP : va_P D vwCl (cr_ws w2 V) H) : va_P D vwCl (cr_ws w V) H := by
  obtain ⟨h1, h2, h3, h4, -, -⟩ := h
  refine cr_Pi.mpr (fun a ha => ?_)
  have := cr_Pi.mp hP a (by omega)
  rw [(h3 a ha).1] at this
  exact cr_rowx (fun b hb => ((h3 b (by omega)).1).symm) h4.symm ((h3 a ha).2).symm this
theorem cr_ext.v {w w2 : cr_Wd} (h : cr_ext w w2) {V : cr_Hp} {a : Array Value} {s : State} {o : Outcome} {t : State} (hq : cr_Qv w2 V a s o t) : cr_Qv w V a s o t := by
  obtain ⟨⟨u, e1, e2, e3⟩, f⟩ := hq
  refine ⟨⟨u, e1, e2, ?_⟩, ?_⟩
  · have e3 : va_P w2.2.2.1 vwCl (cr_ws w2 V) t.heap := e3
    rw [h.2.2.2.2.1] at e3
    exact h.P e3
  · unfold cr_A at f ⊢
    rw [← h.2.2.2.2.2]
    exact f
theorem cr_ext.i {w w2 : cr_Wd} (h : cr_ext w w2) {V : cr_Hp} {r : Int32} {a : Array Value} {s : State} {o : Outcome} {t : State} (hq : cr_Qi w2 V r a s o t) : cr_Qi w V r a s o t := by
  obtain ⟨⟨r1, u, e1, e2, e3⟩, f⟩ := hq
  refine ⟨⟨r1, u, e1, e2, ?_⟩, ?_⟩
  · have e3 : va_P w2.2.2.1 vwCl (cr_ws w2 V) t.heap := e3
    rw [h.2.2.2.2.1] at e3
    exact h.P e3
  · unfold cr_A at f ⊢
    rw [← h.2.2.2.2.2]
    exact f
section CRA
variable {p : Program} {l : Launch} {e : Env} {R : Room} {s : State} {m : MethodId} {args : Array Value} {below : List Frame} {meth : Method} {c : Code} {Q : State → Prop} {w : cr_Wd} {own : String} {c0 : Cond} {cc : ByteArray} {nL : Nat} {V : cr_Hp} {pc : Nat} {lv : List (Nat × Value)} {st : List Value} {ce sl : Nat}
theorem cr_Wm {H : Heap} {locs : List Loc} {Q2 : State → Prop} {g : JFrame} (hq : ∀ t, Q2 t → Q t) (h : W p l e R s m args below meth c H locs ce sl Q2 g) : W p l e R s m args below meth c H locs ce sl Q g := fun T hT X => by
  obtain ⟨t, a, b⟩ := h T hT X
  exact ⟨t, a, hq t b⟩
/-- a new array of ints: one cell more -/
theorem jr_newa (X : cr_Cx w own c0 cc nL p s m args meth c) {Qf : cr_Wd → Array Value → State → Outcome → State → Prop} (hQ : ∀ w2, cr_ext w w2 → ∀ a s o t, Qf w2 a s o t → Qf w a s o t) {mc ms : Nat} {n : Int32} {N aa : Nat} {V1 : cr_Hp} {L : (Nat → Nat) → List (Nat × Value)} (h1 : Cond.arrayClass .int ∈ cr_W) (hn : ¬ n < 0) (hN : n.toNatClampNeg = N) (hb : N * componentBytes .int ≤ 536870912) (hcells : ce + 1 ≤ R.cells) (hslots : sl + N ≤ R.slots) (hid : aa = cr_zn w) (hV : V1 = cr_zr V aa) (hL : ∀ f g : Nat → Nat, (∀ a, a < cr_zn w → f a = g a) → L f = L g) (hdg : decode cc pc = .ok (.newarray .int, 2))
    (kk : ∀ w2 : cr_Wd, cr_Cx w2 own c0 cc nL p s m args meth c → cr_zn w2 = cr_zn w + 1 → (∀ k a, cr_iv w k a → cr_iv w2 k a) → cr_iv w2 N aa → cr_J w2 nL p l e R s m args below meth c (ce + 1) (sl + N) (MQ below (Qf w2) args s mc ms (cr_A w2)) V1 (pc + 2) (L w2.1) [.ref (w2.1 aa)]) : cr_J w nL p l e R s m args below meth c ce sl (MQ below (Qf w) args s mc ms (cr_A w)) V pc (L w.1) [.int n] := fun H locs ls hP hS hl => by
  have hinj : cr_inj w := X.2.2.2.2.2.2.1
  have hEv := X.2.2.2.2.2.1
  refine va_newa (atype := .int) X.1 X.2.1 (X.ts h1) rfl hEv.1 hP (cr_D hinj V) hS (fun q hq => Nat.le_trans hEv.2.2.2.2.2 hq) (a0 := (N, .inl (fun _ => 0))) (fun cA => rfl) hn hN hb hcells hslots hdg (fun q cA H1 hK1 hP1 hD1 hS1 => ?_)
  have hcA : cA = w.2.1 0 := cr_tyu hK1 (i := 0) rfl
  subst hcA
  obtain ⟨w2, ew2⟩ : ∃ w2 : cr_Wd, w2 = (fun a => if a = cr_zn w then q else w.1 a, w.2.1, w.2.2.1, w.2.2.2.1, w.2.2.2.2.1, fun a => if a = cr_zn w then N else cr_zl w a, cr_zn w + 1, cr_z0 w, cr_zb w, cr_zL w, cr_zx w) := ⟨_, rfl⟩
  have hfr : ∀ a, a < cr_zn w → w2.1 a = w.1 a := fun a ha => by rw [ew2]; exact if_neg (by omega)
  have hfn : w2.1 (cr_zn w) = q := by rw [ew2]; exact if_pos rfl
  have hlr : ∀ a, a < cr_zn w → cr_zl w2 a = cr_zl w a := fun a ha => by rw [ew2]; exact if_neg (by omega)
  have hln : cr_zl w2 (cr_zn w) = N := by rw [ew2]; exact if_pos rfl
  have hnn : cr_zn w2 = cr_zn w + 1 := by rw [ew2]
  have h159 : 159 ≤ cr_zn w := hinj.2.1
  have hext : cr_ext w w2 := ⟨h159, by omega, fun a ha => ⟨hfr a ha, hlr a ha⟩, by rw [ew2], by rw [ew2], by rw [ew2]⟩
  have hlen : (cr_ws w V).length = cr_zn w := by simp [cr_ws]
  have hat : ∀ a, a < cr_zn w → (cr_ws w V ++ [(q, .inl (w.2.1 0, N, .inl (fun _ => 0)))])[a]? = some (w.1 a, cr_row w a (V a)) := fun a ha => by
    rw [List.getElem?_append_left (by rw [hlen]; exact ha)]
    exact cr_get w V ha rfl
  have hatn : (cr_ws w V ++ [(q, .inl (w.2.1 0, N, .inl (fun _ => 0)))])[cr_zn w]? = some (q, .inl (w.2.1 0, N, .inl (fun _ => 0))) := by
    rw [List.getElem?_append_right (by rw [hlen]; exact Nat.le_refl _), hlen, Nat.sub_self]; rfl
  have hneq : ∀ a, a < cr_zn w → w.1 a ≠ q := fun a ha he => by
    have := hD1.1 a (cr_zn w) _ _ (hat a ha) hatn he
    omega
  have hinj2 : cr_inj w2 := by
    refine ⟨fun a b ha hb he => ?_, by omega, fun a ha => ?_⟩
    · rcases Nat.lt_or_ge a (cr_zn w) with h1 | h1 <;> rcases Nat.lt_or_ge b (cr_zn w) with h2 | h2
      · rw [hfr a h1, hfr b h2] at he; exact hinj.1 a b h1 h2 he
      · rw [hfr a h1, show b = cr_zn w by omega, hfn] at he; exact absurd he (hneq a h1)
      · rw [hfr b h2, show a = cr_zn w by omega, hfn] at he; exact absurd he.symm (hneq b h2)
      · omega
    · have e0 : cr_z0 w2 = cr_z0 w := by rw [ew2]
      rw [e0]
      rcases Nat.lt_or_ge a (cr_zn w) with h1 | h1
      · rw [hfr a h1]; exact hinj.2.2 a h1
      · rw [show a = cr_zn w by omega, hfn]; exact hD1.2 _ _ hatn
  have X2 : cr_Cx w2 own c0 cc nL p s m args meth c := by
    refine ⟨X.1, X.2.1, X.2.2.1, X.2.2.2.1, X.2.2.2.2.1, ?_, hinj2, X.2.2.2.2.2.2.2⟩
    rw [ew2]
    exact hEv
  have hiv : ∀ k a, cr_iv w k a → cr_iv w2 k a := fun k a h => ⟨h.1, by omega, by rw [hlr a h.2.1]; exact h.2.2⟩
  have hnew : cr_iv w2 N aa := by rw [hid]; exact ⟨h159, by omega, hln⟩
  have hP2 : va_P w2.2.2.1 vwCl (cr_ws w2 V1) H1 := by
    rw [hext.2.2.2.2.1]
    refine cr_Pi.mpr (fun a ha => ?_)
    rcases Nat.lt_or_ge a (cr_zn w) with h1 | h1
    · have h2 := hP1 a _ (hat a h1)
      rw [hfr a h1]
      have e : V1 a = V a := by rw [hV]; exact if_neg (by omega)
      rw [e]
      exact cr_rowx (fun b hb => hfr b (by omega)) hext.2.2.2.1 (hlr a h1) h2
    · have ea : a = cr_zn w := by omega
      have h2 := hP1 _ _ hatn
      rw [ea, hfn, cr_row_big w2 h159, hln, hext.2.2.2.1]
      have e : V1 (cr_zn w) = fun _ => 0 := by rw [hV, hid]; exact if_pos rfl
      rw [e]
      exact h2
  have hS2 : va_S (cr_A w2) s.heap H1 locs := by
    unfold cr_A
    rw [hext.2.2.2.2.2]
    exact hS1
  have hl2 : lv_has ls nL (L w2.1) := by
    rw [hL w2.1 w.1 hfr]
    exact hl
  have hq2 : q = w2.1 aa := by rw [hid, hfn]
  rw [hq2]
  refine cr_Wm (fun t ht => ?_) (kk w2 X2 hnn hiv hnew H1 locs ls hP2 hS2 hl2)
  obtain ⟨o, a1, a2, a3, L1, a4, a5⟩ := ht
  refine ⟨o, a1, a2, hQ w2 hext _ _ _ _ a3, L1, a4, fun q hq => ?_⟩
  have := a5 q hq
  unfold cr_A at this ⊢
  rw [hext.2.2.2.2.2] at this
  exact this
theorem cr_ws_g {V V1 : cr_Hp} (h : ∀ a, a < cr_zn w → V1 a = V a) : cr_ws w V1 = cr_ws w V := by
  unfold cr_ws
  apply List.map_congr_left
  intro a ha
  rw [h a (List.mem_range.mp ha)]
/-- the law's own count of the methods' calls that make cells -/
def cr_ce (V : cr_Hp) : Nat := 1000 + 6 * min (V 999 0).toNatClampNeg 60000
def cr_sl (V : cr_Hp) : Nat := 10000 + 109 * min (V 999 0).toNatClampNeg 60000
theorem cr_ce_le (V : cr_Hp) : cr_ce V ≤ room_1.cells ∧ cr_sl V ≤ room_1.slots := by
  unfold cr_ce cr_sl
  constructor
  · show _ ≤ 600000; omega
  · show _ ≤ 7302250; omega
theorem cr_ce_lea (V : cr_Hp) {mc ms : Nat} (h1 : mc ≤ 6) (h2 : ms ≤ 109) : cr_ce V + mc ≤ room_1.cells ∧ cr_sl V + ms ≤ room_1.slots := by
  unfold cr_ce cr_sl
  constructor
  · show _ ≤ 600000; omega
  · show _ ≤ 7302250; omega
theorem jr_cev {V1 : cr_Hp} (h : V1 999 0 = V 999 0) (kk : cr_J w nL p l e R s m args below meth c (cr_ce V1) (cr_sl V1) Q V1 pc lv st) : cr_J w nL p l e R s m args below meth c (cr_ce V) (cr_sl V) Q V1 pc lv st := by
  unfold cr_ce cr_sl at kk ⊢
  rw [← h]
  exact kk
theorem jr_cea {V1 V2 : cr_Hp} {mc ms : Nat} (hn : cr_zn w = 163) (h : (V 999 0).toNatClampNeg < 60000) (h1 : mc ≤ 6) (h2 : ms ≤ 109) (hV : V2 = cr_pt V1 999 0 (nI ((V 999 0).toNatClampNeg + 1))) (kk : cr_J w nL p l e R s m args below meth c (cr_ce V2) (cr_sl V2) Q V2 pc lv st) : cr_J w nL p l e R s m args below meth c (cr_ce V + mc) (cr_sl V + ms) Q V1 pc lv st := by
  have e : (V2 999 0).toNatClampNeg = (V 999 0).toNatClampNeg + 1 := by
    rw [hV, cr_pt_eq]
    show (upd (V1 999) 0 _ 0).toNatClampNeg = _
    unfold upd
    rw [if_pos rfl, nI_clamp (by omega)]
  intro H locs ls hP hS hl
  have hw : cr_ws w V2 = cr_ws w V1 := cr_ws_g (fun a ha => by rw [hV]; exact cr_pt_ne (by omega))
  refine W.widen ?_ ?_ (kk H locs ls (by rw [hw]; exact hP) hS hl)
  · unfold cr_ce; omega
  · unfold cr_sl; omega
def cr_LX (w : cr_Wd) (p : Program) (s : State) (m : MethodId) (args : Array Value) (meth : Method) (c : Code) : Prop := cr_Cx w RL (Cond.initialized RX7) cL_law 19 p s m args meth c ∧ cr_zn w = 163 ∧ cr_zl w 159 = 8 ∧ cr_zl w 160 = 60 ∧ cr_zl w 161 = 12 ∧ cr_zl w 162 = 5
end CRA
theorem cr_LX.c {w : cr_Wd} {p : Program} {s : State} {m : MethodId} {args : Array Value} {meth : Method} {c : Code} (X : cr_LX w p s m args meth c) : cr_Cx w RL (Cond.initialized RX7) cL_law 19 p s m args meth c := X.1
theorem cr_LX.n {w : cr_Wd} {p : Program} {s : State} {m : MethodId} {args : Array Value} {meth : Method} {c : Code} (X : cr_LX w p s m args meth c) : cr_zn w = 163 := X.2.1
theorem cr_LX.k0 {w : cr_Wd} {p : Program} {s : State} {m : MethodId} {args : Array Value} {meth : Method} {c : Code} (X : cr_LX w p s m args meth c) : cr_iv w 8 159 := ⟨by omega, by rw [X.n]; omega, X.2.2.1⟩
theorem cr_LX.k1 {w : cr_Wd} {p : Program} {s : State} {m : MethodId} {args : Array Value} {meth : Method} {c : Code} (X : cr_LX w p s m args meth c) : cr_iv w 60 160 := ⟨by omega, by rw [X.n]; omega, X.2.2.2.1⟩
theorem cr_LX.k2 {w : cr_Wd} {p : Program} {s : State} {m : MethodId} {args : Array Value} {meth : Method} {c : Code} (X : cr_LX w p s m args meth c) : cr_iv w 12 161 := ⟨by omega, by rw [X.n]; omega, X.2.2.2.2.1⟩
theorem cr_LX.k3 {w : cr_Wd} {p : Program} {s : State} {m : MethodId} {args : Array Value} {meth : Method} {c : Code} (X : cr_LX w p s m args meth c) : cr_iv w 5 162 := ⟨by omega, by rw [X.n]; omega, X.2.2.2.2.2⟩
