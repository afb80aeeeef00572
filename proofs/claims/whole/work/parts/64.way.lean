/-! the way out -/
theorem cr_least {P : Nat → Prop} : ∀ n : Nat, (∃ d, d < n ∧ P d ∧ ∀ e, e < d → ¬ P e) ∨ ∀ d, d < n → ¬ P d
  | 0 => Or.inr (fun d h => absurd h (by omega))
  | n + 1 => by
    rcases cr_least (P := P) n with ⟨d, h1, h2, h3⟩ | h
    · exact Or.inl ⟨d, by omega, h2, h3⟩
    · by_cases hp : P n
      · exact Or.inl ⟨n, by omega, hp, h⟩
      · refine Or.inr (fun d hd => ?_)
        rcases Nat.lt_or_ge d n with h1 | h1
        · exact h d h1
        · rw [show d = n by omega]; exact hp
abbrev sp_od (b : Nat → Int32) (k : Nat) (X Y s : Int32) (d : Nat) : Prop := (¬ (X + s * cr_sx d) < 0 ∧ ¬ (30 : Int32) < (X + s * cr_sx d) ∧ ¬ (Y + s * cr_sy d) < 0 ∧ ¬ (30 : Int32) < (Y + s * cr_sy d)) ∧ sp_rs b (X + s * cr_sx d) (Y + s * cr_sy d) k = 0
theorem cr_isDir {d : Nat} (h : d < 8) : f_X7_isDirection (nI d) = some 1 := by
  unfold f_X7_isDirection
  rw [if_neg (cr_nn (by omega)), cr_L8, if_neg (nI_ge h (by decide)), if_neg (nI_ge h (by decide))]
theorem cr_isDir0 {x : Int32} (h : x < 0 ∨ nI 8 ≤ x) : f_X7_isDirection x = some 0 := by
  unfold f_X7_isDirection
  by_cases h1 : x < 0
  · rw [if_pos h1]
  · rw [if_neg h1, cr_L8, if_pos (h.resolve_left h1)]
theorem cr_stepX {d : Nat} (h : d < 8) : f_X7_stepX (nI d) = some (cr_sx d) := by
  unfold f_X7_stepX
  rw [cr_isDir h, cr_bd_some, if_neg (by decide), cr_gd_e (cr_ix_nI h (by decide)), nI_clamp (by omega)]
theorem cr_stepY {d : Nat} (h : d < 8) : f_X7_stepY (nI d) = some (cr_sy d) := by
  unfold f_X7_stepY
  rw [cr_isDir h, cr_bd_some, if_neg (by decide), cr_gd_e (cr_ix_nI h (by decide)), nI_clamp (by omega)]
theorem cr_outStep {a p d : Nat} {V : cr_Hp} {b : Nat → Int32} {n k : Nat} {s : Int32} (hB : cr_B b n k) (hC : cr_C a V b n k) (hd : d < 8) : f_X3_isOutAfter_l2 a p s (nI d) V = some (if sp_od b k (V p 1) (V p 2) s d then .inr (.inl ()) else .inl (nI (d + 1))) := by
  unfold f_X3_isOutAfter_l2
  rw [cr_L8, if_neg (nI_ge hd (by decide)), cr_stepX hd, cr_stepY hd, cr_1]
  simp only [cr_bd_some, cr_lt_e, cr_pt2a, cr_ringsAround hB hC]
  by_cases h1 : ¬ (V p 1 + s * cr_sx d) < 0 ∧ ¬ (30 : Int32) < (V p 1 + s * cr_sx d) ∧ ¬ (V p 2 + s * cr_sy d) < 0 ∧ ¬ (30 : Int32) < (V p 2 + s * cr_sy d)
  · rw [if_pos h1, if_neg (by decide)]
    by_cases h2 : sp_rs b (V p 1 + s * cr_sx d) (V p 2 + s * cr_sy d) k = 0
    · rw [if_pos h2, if_pos ⟨h1, h2⟩]
    · rw [if_neg h2, if_neg (fun h => h2 h.2)]
  · rw [if_neg h1, if_pos (by decide), if_neg (fun h => h1 h.1)]
theorem cr_outY {a p : Nat} {V : cr_Hp} {b : Nat → Int32} {n k : Nat} {s : Int32} (hB : cr_B b n k) (hC : cr_C a V b n k) (h : ∃ d, d < 8 ∧ sp_od b k (V p 1) (V p 2) s d) : f_X3_isOutAfter a p s V = some 1 := by
  unfold f_X3_isOutAfter
  rcases cr_least (P := sp_od b k (V p 1) (V p 2) s) 8 with ⟨d, hd, h1, h2⟩ | hn
  · refine Eq.trans (cr_bd_for (fun i => nI i) d (r := .inl ()) ?_ ?_ (by omega) rfl) rfl
    · intro j hj
      show f_X3_isOutAfter_l2 a p s (nI j) V = _
      rw [cr_outStep hB hC (by omega), if_neg (h2 j hj)]
    · show f_X3_isOutAfter_l2 a p s (nI d) V = _
      rw [cr_outStep hB hC hd, if_pos h1]
  · obtain ⟨d, hd, h1⟩ := h
    exact absurd h1 (hn d hd)
theorem cr_outN {a p : Nat} {V : cr_Hp} {b : Nat → Int32} {n k : Nat} {s : Int32} (hB : cr_B b n k) (hC : cr_C a V b n k) (h : ∀ d, d < 8 → ¬ sp_od b k (V p 1) (V p 2) s d) : f_X3_isOutAfter a p s V = some 0 := by
  unfold f_X3_isOutAfter
  refine Eq.trans (cr_bd_for (fun i => nI i) 8 (r := .inr ()) ?_ ?_ (by omega) rfl) rfl
  · intro j hj
    show f_X3_isOutAfter_l2 a p s (nI j) V = _
    rw [cr_outStep hB hC hj, if_neg (h j hj)]
  · show f_X3_isOutAfter_l2 a p s (nI 8) V = _
    unfold f_X3_isOutAfter_l2
    rw [cr_L8, if_pos (nI_le (Nat.le_refl 8) (by decide))]
/-- the model's -/
def sp_st (b : Nat → Int32) (k : Nat) (X Y s f : Int32) : Nat → Int32
  | 0 => f
  | d + 1 => if sp_od b k X Y s d then s else sp_st b k X Y s f d
theorem sp_st_n {b : Nat → Int32} {k : Nat} {X Y s f : Int32} : ∀ i : Nat, (∀ d, d < i → ¬ sp_od b k X Y s d) → sp_st b k X Y s f i = f
  | 0, _ => rfl
  | i + 1, h => by
    show (if _ then _ else _) = _
    rw [if_neg (h i (by omega))]
    exact sp_st_n i (fun d hd => h d (by omega))
theorem sp_st_y {b : Nat → Int32} {k : Nat} {X Y s f : Int32} : ∀ i : Nat, (∃ d, d < i ∧ sp_od b k X Y s d) → sp_st b k X Y s f i = s
  | 0, h => by obtain ⟨d, hd, _⟩ := h; omega
  | i + 1, h => by
    show (if _ then _ else _) = _
    by_cases hi : sp_od b k X Y s i
    · rw [if_pos hi]
    · rw [if_neg hi]
      obtain ⟨d, hd, h1⟩ := h
      rcases Nat.lt_or_ge d i with h2 | h2
      · exact sp_st_y i ⟨d, h2, h1⟩
      · rw [show d = i by omega] at h1; exact absurd h1 hi
theorem cr_fx_sx {d : Nat} (h : d < 8) : cr_fx d = cr_sx d := by
  have hd : d = 0 ∨ d = 1 ∨ d = 2 ∨ d = 3 ∨ d = 4 ∨ d = 5 ∨ d = 6 ∨ d = 7 := by omega
  rcases hd with rfl | rfl | rfl | rfl | rfl | rfl | rfl | rfl <;> decide
theorem cr_fy_sy {d : Nat} (h : d < 8) : cr_fy d = cr_sy d := by
  have hd : d = 0 ∨ d = 1 ∨ d = 2 ∨ d = 3 ∨ d = 4 ∨ d = 5 ∨ d = 6 ∨ d = 7 := by omega
  rcases hd with rfl | rfl | rfl | rfl | rfl | rfl | rfl | rfl <;> decide
def cr_St (V : cr_Hp) : Prop := V 164 = cr_fx ∧ V 165 = cr_fy
theorem cr_mway8 {j : Nat} {V : cr_Hp} {b : Nat → Int32} {n k : Nat} {s f : Int32} (hB : cr_B b n k) (hV : V 160 = b) (hS : cr_St V) (hj : j < 12) {g : Int32 → Option ((Int32 × Int32) ⊕ Int32)} : cr_bd (cr_it (fun (q : Int32 × Int32) => f_X8_stepsOut_l34 (nI j) s q.1 q.2 V) cr_FU (f, (0 : Int32))) g = g (sp_st b k (b (8 + 5 * j)) (b (8 + 5 * j + 1)) s f 8) := by
  refine cr_bd_for (fun i => (sp_st b k (b (8 + 5 * j)) (b (8 + 5 * j + 1)) s f i, nI i)) 8 ?_ ?_ (by decide) rfl
  · intro d hd
    show f_X8_stepsOut_l34 (nI j) s (sp_st b k (b (8 + 5 * j)) (b (8 + 5 * j + 1)) s f d) (nI d) V = some (.inl (if sp_od b k (b (8 + 5 * j)) (b (8 + 5 * j + 1)) s d then s else sp_st b k (b (8 + 5 * j)) (b (8 + 5 * j + 1)) s f d, nI (d + 1)))
    unfold f_X8_stepsOut_l34
    rw [cr_L8, if_neg (nI_ge hd (by decide)), cr_mp0 hj, cr_mp1 hj, cr_1, hS.1, hS.2, hV]
    simp only [cr_bd_some, cr_lt_e, cr_gd_e (cr_ix_nI hd (by decide)), cr_pt2b, cr_mringsOf hB hV, nI_clamp (show d < 2 ^ 31 by omega), cr_fx_sx hd, cr_fy_sy hd]
    by_cases h1 : ¬ (b (8 + 5 * j) + s * cr_sx d) < 0 ∧ ¬ (30 : Int32) < (b (8 + 5 * j) + s * cr_sx d) ∧ ¬ (b (8 + 5 * j + 1) + s * cr_sy d) < 0 ∧ ¬ (30 : Int32) < (b (8 + 5 * j + 1) + s * cr_sy d)
    · rw [if_pos h1, if_neg (by decide)]
      by_cases h2 : sp_rs b (b (8 + 5 * j) + s * cr_sx d) (b (8 + 5 * j + 1) + s * cr_sy d) k = 0
      · rw [if_pos h2, if_pos ⟨h1, h2⟩]
      · rw [if_neg h2, if_neg (fun h => h2 h.2)]
    · rw [if_neg h1, if_pos (by decide), if_neg (fun h => h1 h.1)]
  · show f_X8_stepsOut_l34 (nI j) s (sp_st b k (b (8 + 5 * j)) (b (8 + 5 * j + 1)) s f 8) (nI 8) V = _
    unfold f_X8_stepsOut_l34
    rw [cr_L8, if_pos (nI_le (Nat.le_refl 8) (by decide))]
theorem cr_od0 {b : Nat → Int32} {n k j d : Nat} (hB : cr_B b n k) (hj : j < n) : sp_od b k (b (8 + 5 * j)) (b (8 + 5 * j + 1)) (nI 0) d ↔ sp_rs b (b (8 + 5 * j)) (b (8 + 5 * j + 1)) k = 0 := by
  obtain ⟨x, y, s, o, hx, hy, -, -, -, ex, ey, -, -, -⟩ := hB.2.2.2.2.2.1 j hj
  have e1 : b (8 + 5 * j) + nI 0 * cr_sx d = b (8 + 5 * j) := by rw [← cr_L0, Int32.zero_mul, Int32.add_zero]
  have e2 : b (8 + 5 * j + 1) + nI 0 * cr_sy d = b (8 + 5 * j + 1) := by rw [← cr_L0, Int32.zero_mul, Int32.add_zero]
  unfold sp_od
  rw [e1, e2]
  constructor
  · exact fun h => h.2
  · intro h
    refine ⟨?_, h⟩
    rw [ex, ey]
    exact ⟨cr_nn (by omega), cr_n30 (by omega), cr_nn (by omega), cr_n30 (by omega)⟩
theorem cr_way {j : Nat} {V : cr_Hp} {b : Nat → Int32} {n k : Nat} (hB : cr_B b n k) (hC : cr_C 0 V b n k) (hV : V 160 = b) (hS : cr_St V) (hj : j < n) (l : cr_lie b j) : ∃ r, f_X7_wayOut (nI j) V = some r ∧ f_X8_stepsOut (nI j) V = some r := by
  have hn := hB.1
  obtain ⟨e1, e2, -, -⟩ := hC.2.2.2.1 j hj
  have l6 : V (0 + 1 + 2 + j) 6 = 1 := by
    rcases hC.2.2.2.2.1 j hj with ⟨-, h, -⟩ | ⟨h, -, -⟩
    · exact h
    · exact absurd l h
  have hX : ∀ (t : Nat) (g : Int32 → Option Int32) (u : Option Int32), f_X7_wayOut (nI j) V = cr_bd (cr_it (fun (q : Int32) => f_X7_wayOut_l30 (0 + 1 + 2 + j) q V) cr_FU (0 : Int32)) (cr_sm (fun (u3_30_48 : Int32) => some u3_30_48) (fun (_ : Unit) => some (-1006 : Int32))) := by
    intro t g u
    unfold f_X7_wayOut
    rw [cr_find_s hB hC hj, cr_bd_some, cr_on_1, cr_gd_e (cr_ms_ma (cr_pg_ms hC.1) (by omega)), l6, if_neg (by decide)]
  have hX := hX 0 (fun _ => none) none
  rcases cr_least (P := fun s => ∃ d, d < 8 ∧ sp_od b k (b (8 + 5 * j)) (b (8 + 5 * j + 1)) (nI s) d) 31 with ⟨s, hs, ho, hl⟩ | hno
  · refine ⟨nI s, ?_, ?_⟩
    · rw [hX]
      refine Eq.trans (cr_bd_for (fun i => nI i) s (r := .inl (nI s)) ?_ ?_ (by omega) rfl) rfl
      · intro i hi
        show f_X7_wayOut_l30 (0 + 1 + 2 + j) (nI i) V = _
        unfold f_X7_wayOut_l30
        rw [if_neg (cr_n30 (by omega)), cr_outN hB hC (by rw [e1, e2]; exact fun d hd h => hl i hi ⟨d, hd, h⟩), cr_bd_some, if_pos (by decide), cr_1]
      · show f_X7_wayOut_l30 (0 + 1 + 2 + j) (nI s) V = _
        unfold f_X7_wayOut_l30
        rw [if_neg (cr_n30 (by omega)), cr_outY hB hC (by rw [e1, e2]; exact ho), cr_bd_some, if_neg (by decide)]
    · unfold f_X8_stepsOut
      rw [cr_mringsM (by omega) hB hV, cr_bd_some]
      by_cases h0 : s = 0
      · subst h0
        obtain ⟨d, hd, h1⟩ := ho
        rw [if_pos ((cr_od0 hB hj).mp h1)]
        unfold f_X8_stepsOut_b15
        refine Eq.trans (cr_bd_for (fun _ => ((0 : Int32), (1 : Int32))) 0 (r := (0 : Int32)) (fun i hi => absurd hi (by omega)) ?_ (by omega) rfl) rfl
        show f_X8_stepsOut_l18 (nI j) (0 : Int32) (1 : Int32) V = _
        unfold f_X8_stepsOut_l18
        rw [if_neg (by decide), if_neg (by decide)]
      · rw [if_neg (fun h => hl 0 (by omega) ⟨0, by decide, (cr_od0 hB hj).mpr h⟩)]
        unfold f_X8_stepsOut_b15
        refine Eq.trans (cr_bd_for (fun i => ((if i < s then (-1006 : Int32) else nI s), nI (i + 1))) s (r := nI s) ?_ ?_ (by omega) ?_) rfl
        · intro i hi
          show f_X8_stepsOut_l18 (nI j) (if i < s then (-1006 : Int32) else nI s) (nI (i + 1)) V = some (.inl ((if i + 1 < s then (-1006 : Int32) else nI s), nI (i + 1 + 1)))
          unfold f_X8_stepsOut_l18
          rw [if_neg (cr_n30 (by omega)), if_pos hi, if_pos (by decide), cr_mway8 hB hV hS (by omega), cr_1]
          by_cases h2 : i + 1 < s
          · rw [if_pos h2, sp_st_n 8 (fun d hd h => hl (i + 1) h2 ⟨d, hd, h⟩)]
          · rw [if_neg h2, show i + 1 = s by omega, sp_st_y 8 ho]
        · show f_X8_stepsOut_l18 (nI j) (if s < s then (-1006 : Int32) else nI s) (nI (s + 1)) V = _
          unfold f_X8_stepsOut_l18
          rw [if_neg (Nat.lt_irrefl s)]
          by_cases h3 : (30 : Int32) < nI (s + 1)
          · rw [if_pos h3]
          · rw [if_neg h3, if_neg (cr_ne_m1006 (by omega))]
        · show ((-1006 : Int32), (1 : Int32)) = ((if 0 < s then (-1006 : Int32) else nI s), nI (0 + 1))
          rw [if_pos (by omega)]; rfl
  · refine ⟨-1006, ?_, ?_⟩
    · rw [hX]
      refine Eq.trans (cr_bd_for (fun i => nI i) 31 (r := .inr ()) ?_ ?_ (by omega) rfl) rfl
      · intro i hi
        show f_X7_wayOut_l30 (0 + 1 + 2 + j) (nI i) V = _
        unfold f_X7_wayOut_l30
        rw [if_neg (cr_n30 (by omega)), cr_outN hB hC (by rw [e1, e2]; exact fun d hd h => hno i hi ⟨d, hd, h⟩), cr_bd_some, if_pos (by decide), cr_1]
      · show f_X7_wayOut_l30 (0 + 1 + 2 + j) (nI 31) V = _
        unfold f_X7_wayOut_l30
        rw [if_pos cr_p30]
    · unfold f_X8_stepsOut
      rw [cr_mringsM (by omega) hB hV, cr_bd_some, if_neg (fun h => hno 0 (by omega) ⟨0, by decide, (cr_od0 hB hj).mpr h⟩)]
      unfold f_X8_stepsOut_b15
      refine Eq.trans (cr_bd_for (fun i => ((-1006 : Int32), nI (i + 1))) 30 (r := (-1006 : Int32)) ?_ ?_ (by omega) rfl) rfl
      · intro i hi
        show f_X8_stepsOut_l18 (nI j) (-1006 : Int32) (nI (i + 1)) V = some (.inl ((-1006 : Int32), nI (i + 1 + 1)))
        unfold f_X8_stepsOut_l18
        rw [if_neg (cr_n30 (by omega)), if_pos (by decide), cr_mway8 hB hV hS (by omega), cr_1, sp_st_n 8 (fun d hd h => hno (i + 1) (by omega) ⟨d, hd, h⟩)]
      · show f_X8_stepsOut_l18 (nI j) (-1006 : Int32) (nI (30 + 1)) V = _
        unfold f_X8_stepsOut_l18
        rw [if_pos cr_p30]
theorem cr_way0 {j : Nat} {V : cr_Hp} {b : Nat → Int32} {n k : Nat} (hB : cr_B b n k) (hC : cr_C 0 V b n k) (hj : j < n) (l : ¬ cr_lie b j) : f_X7_wayOut (nI j) V = some (-1003) := by
  have hn := hB.1
  have l6 : V (0 + 1 + 2 + j) 6 = 0 := by
    rcases hC.2.2.2.2.1 j hj with ⟨h, -, -⟩ | ⟨-, h, -⟩
    · exact absurd h l
    · exact h
  unfold f_X7_wayOut
  rw [cr_find_s hB hC hj, cr_bd_some, cr_on_1, cr_gd_e (cr_ms_ma (cr_pg_ms hC.1) (by omega)), l6, if_pos (by decide)]
theorem cr_q_way {V : cr_Hp} {b : Nat → Int32} {n k : Nat} (hB : cr_B b n k) (hC : cr_C 0 V b n k) (hV : V 160 = b) (hS : cr_St V) (x : Int32) : ∃ r, f_X7_wayOut x V = some r ∧ f_X8_wayOut x V = some r := by
  have hn := hB.1
  rcases cr_any_lt x (n := n) (by omega) with h | ⟨j, hj, rfl⟩
  · refine ⟨-1001, ?_, ?_⟩
    · unfold f_X7_wayOut
      rw [cr_find_n hB hC h, cr_bd_some, cr_on_0]
    · unfold f_X8_wayOut
      rw [cr_isM_n hB hV h, cr_bd_some, if_pos (by decide)]
  · by_cases l : cr_lie b j
    · obtain ⟨r, h1, h2⟩ := cr_way hB hC hV hS hj l
      refine ⟨r, h1, ?_⟩
      unfold f_X8_wayOut
      rw [cr_isM_s hB hV hj, cr_bd_some, if_neg (by decide), cr_mthere (by omega) hV l, cr_bd_some, if_neg (by decide), h2, cr_bd_some]
    · refine ⟨_, cr_way0 hB hC hj l, ?_⟩
      unfold f_X8_wayOut
      rw [cr_isM_s hB hV hj, cr_bd_some, if_neg (by decide), cr_mthere0 (by omega) hV l, cr_bd_some, if_pos (by decide)]
