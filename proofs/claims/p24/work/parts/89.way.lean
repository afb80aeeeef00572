/-! asked after every act: the class and the law's arrays answer alike -/
theorem cr_Llow (x : Int32) {M : Nat} (h0 : 0 < M) (hM : M < 2 ^ 31) : ∃ r, r < M ∧ f_L_low x (nI M) = some (nI r) := by
  obtain ⟨j, hj, e⟩ := pk_andE x (m := (2147483647 : Int32)) 31 (by decide)
  refine ⟨j % M, Nat.mod_lt _ h0, ?_⟩
  unfold f_L_low
  rw [cr_gd_e (nI_ne0 h0 hM), e, pk_rem (by omega) h0 hM]
theorem cr_qcount {V : cr_Hp} {b : Nat → Int32} {n k t : Nat} (hC : cr_C 0 V b n k) (ht : t < 8) : f_X7_count (nI t) V = some (b t) := by
  have hc := hC.2.1
  have hj2 : t = 0 ∨ t = 1 ∨ t = 2 ∨ t = 3 ∨ t = 4 ∨ t = 5 ∨ t = 6 ∨ t = 7 := by omega
  rcases hj2 with rfl | rfl | rfl | rfl | rfl | rfl | rfl | rfl
  · exact congrArg some (hc 0 (by decide))
  · exact congrArg some (hc 1 (by decide))
  · exact congrArg some (hc 2 (by decide))
  · exact congrArg some (hc 3 (by decide))
  · exact congrArg some (hc 4 (by decide))
  · exact congrArg some (hc 5 (by decide))
  · exact congrArg some (hc 6 (by decide))
  · exact congrArg some (hc 7 (by decide))
theorem cr_qat_s {V : cr_Hp} {b : Nat → Int32} {n k i X Y : Nat} (hB : cr_B b n k) (hC : cr_C 0 V b n k) (hX : X ≤ 30) (hY : Y ≤ 30) (hi : i < n) (ho : cr_on_pt b i (nI X) (nI Y)) : f_X7_at (nI X) (nI Y) V = some (nI i) := by
  have hn := hB.1
  unfold f_X7_at
  rw [cr_pt2a, cr_bd_some, if_pos (cr_pN hX hY), if_neg (by decide), cr_marbleOn_s hB hC hi ho, cr_bd_some, cr_on_1, cr_gd_e (cr_ms_ma (cr_pg_ms hC.1) (by omega)), hC.2.2.1 i (by omega)]
theorem cr_qat_n {V : cr_Hp} {b : Nat → Int32} {n k X Y : Nat} (hB : cr_B b n k) (hC : cr_C 0 V b n k) (hX : X ≤ 30) (hY : Y ≤ 30) (ho : ∀ i, i < n → ¬ cr_on_pt b i (nI X) (nI Y)) : f_X7_at (nI X) (nI Y) V = some (-1006) := by
  have hn := hB.1
  unfold f_X7_at
  rw [cr_pt2a, cr_bd_some, if_pos (cr_pN hX hY), if_neg (by decide), cr_marbleOn_n hB hC ho, cr_bd_some, cr_on_0]
theorem cr_qat {aq am ar n k X Y : Nat} {V : cr_Hp} {b : Nat → Int32} (hB : cr_B b n k) (hC : cr_C 0 V b n k) (hR : cr_R aq am ar V b n k) (hX : X ≤ 30) (hY : Y ≤ 30) : ∃ r, f_X7_at (nI X) (nI Y) V = some r ∧ f_L_at aq am (nI X) (nI Y) V = some r := by
  rcases cr_on_em (b := b) (n := n) (x := nI X) (y := nI Y) with ⟨i, hi, ho⟩ | ho
  · exact ⟨_, cr_qat_s hB hC hX hY hi ho, cr_Lat_s hB hR hi ho⟩
  · exact ⟨_, cr_qat_n hB hC hX hY ho, cr_Lat_n hB hR ho⟩
theorem cr_qscore {V : cr_Hp} {b : Nat → Int32} {n k p : Nat} (hB : cr_B b n k) (hC : cr_C 0 V b n k) (hp : p < 3) : f_X7_score (nI p) V = some (sp_sc b (nI p) n) := by
  unfold f_X7_score
  rw [cr_isPlY hp, cr_bd_some, if_neg (by decide), cr_points hB hC, cr_bd_some]
theorem cr_qm_no {V : cr_Hp} {b : Nat → Int32} {n k : Nat} {y : Int32} (hB : cr_B b n k) (hC : cr_C 0 V b n k) : f_X7_marble (nI n) y V = some (-1001) := by
  unfold f_X7_marble
  rw [cr_find_n hB hC (Or.inr (nI_le (Nat.le_refl n) (by have := hB.1; omega))), cr_bd_some, cr_on_0]
theorem cr_qr_no {V : cr_Hp} {b : Nat → Int32} {n k : Nat} {y : Int32} (hB : cr_B b n k) (hC : cr_C 0 V b n k) : f_X7_ring (nI k) y V = some (-1001) := by
  unfold f_X7_ring
  rw [cr_findr_n hB hC (Or.inr (nI_le (Nat.le_refl k) (by have := hB.2.1; omega))), cr_bd_some, cr_on_0]
theorem cr_qm0l {V : cr_Hp} {b : Nat → Int32} {n k j : Nat} (hB : cr_B b n k) (hC : cr_C 0 V b n k) (hj : j < n) (l : cr_lie b j) : f_X7_marble (nI j) (0 : Int32) V = some (b (8 + 5 * j)) := (cr_marble hB hC hj (c := 0) (by decide)).trans (by unfold sp_mb; rw [if_pos (by decide), if_pos l])
theorem cr_qm0w {V : cr_Hp} {b : Nat → Int32} {n k j : Nat} (hB : cr_B b n k) (hC : cr_C 0 V b n k) (hj : j < n) (l : ¬ cr_lie b j) : f_X7_marble (nI j) (0 : Int32) V = some (-1006) := (cr_marble hB hC hj (c := 0) (by decide)).trans (by unfold sp_mb; rw [if_pos (by decide), if_neg l])
theorem cr_qm1l {V : cr_Hp} {b : Nat → Int32} {n k j : Nat} (hB : cr_B b n k) (hC : cr_C 0 V b n k) (hj : j < n) (l : cr_lie b j) : f_X7_marble (nI j) (1 : Int32) V = some (b (8 + 5 * j + 1)) := (cr_marble hB hC hj (c := 1) (by decide)).trans (by unfold sp_mb; rw [if_neg (by decide), if_pos (by decide), if_pos l])
theorem cr_qm1w {V : cr_Hp} {b : Nat → Int32} {n k j : Nat} (hB : cr_B b n k) (hC : cr_C 0 V b n k) (hj : j < n) (l : ¬ cr_lie b j) : f_X7_marble (nI j) (1 : Int32) V = some (-1006) := (cr_marble hB hC hj (c := 1) (by decide)).trans (by unfold sp_mb; rw [if_neg (by decide), if_pos (by decide), if_neg l])
theorem cr_qm2 {V : cr_Hp} {b : Nat → Int32} {n k j : Nat} (hB : cr_B b n k) (hC : cr_C 0 V b n k) (hj : j < n) : f_X7_marble (nI j) (2 : Int32) V = some (b (8 + 5 * j + 2)) := (cr_marble hB hC hj (c := 2) (by decide)).trans (by unfold sp_mb; rfl)
theorem cr_qm3 {V : cr_Hp} {b : Nat → Int32} {n k j : Nat} (hB : cr_B b n k) (hC : cr_C 0 V b n k) (hj : j < n) : f_X7_marble (nI j) (3 : Int32) V = some (b (8 + 5 * j + 3)) := (cr_marble hB hC hj (c := 3) (by decide)).trans (by unfold sp_mb; rfl)
theorem cr_qm4 {V : cr_Hp} {b : Nat → Int32} {n k j : Nat} (hB : cr_B b n k) (hC : cr_C 0 V b n k) (hj : j < n) : f_X7_marble (nI j) (4 : Int32) V = some (b (8 + 5 * j + 4)) := (cr_marble hB hC hj (c := 4) (by decide)).trans (by unfold sp_mb; rfl)
theorem cr_qm5l {V : cr_Hp} {b : Nat → Int32} {n k j : Nat} (hB : cr_B b n k) (hC : cr_C 0 V b n k) (hj : j < n) (l : cr_lie b j) : f_X7_marble (nI j) (5 : Int32) V = some (sp_rs b (b (8 + 5 * j)) (b (8 + 5 * j + 1)) k) := (cr_marble hB hC hj (c := 5) (by decide)).trans (by unfold sp_mb; rw [if_neg (by decide), if_neg (by decide), if_neg (by decide), if_neg (by decide), if_neg (by decide), if_pos l])
theorem cr_qm5w {V : cr_Hp} {b : Nat → Int32} {n k j : Nat} (hB : cr_B b n k) (hC : cr_C 0 V b n k) (hj : j < n) (l : ¬ cr_lie b j) : f_X7_marble (nI j) (5 : Int32) V = some (-1006) := (cr_marble hB hC hj (c := 5) (by decide)).trans (by unfold sp_mb; rw [if_neg (by decide), if_neg (by decide), if_neg (by decide), if_neg (by decide), if_neg (by decide), if_neg l])
theorem cr_qr0 {V : cr_Hp} {b : Nat → Int32} {n k r : Nat} (hB : cr_B b n k) (hC : cr_C 0 V b n k) (hr : r < k) : f_X7_ring (nI r) (0 : Int32) V = some (b (68 + 3 * r)) := cr_ring hB hC hr (c := 0) (by decide)
theorem cr_qr1 {V : cr_Hp} {b : Nat → Int32} {n k r : Nat} (hB : cr_B b n k) (hC : cr_C 0 V b n k) (hr : r < k) : f_X7_ring (nI r) (1 : Int32) V = some (b (68 + 3 * r + 1)) := cr_ring hB hC hr (c := 1) (by decide)
theorem cr_qr2 {V : cr_Hp} {b : Nat → Int32} {n k r : Nat} (hB : cr_B b n k) (hC : cr_C 0 V b n k) (hr : r < k) : f_X7_ring (nI r) (2 : Int32) V = some (b (68 + 3 * r + 2)) := cr_ring hB hC hr (c := 2) (by decide)
theorem cr_qr3 {V : cr_Hp} {b : Nat → Int32} {n k r : Nat} (hB : cr_B b n k) (hC : cr_C 0 V b n k) (hr : r < k) : f_X7_ring (nI r) (3 : Int32) V = some (sp_mi b r n) := cr_ring hB hC hr (c := 3) (by decide)
theorem cr_qr4 {V : cr_Hp} {b : Nat → Int32} {n k r : Nat} (hB : cr_B b n k) (hC : cr_C 0 V b n k) (hr : r < k) : f_X7_ring (nI r) (4 : Int32) V = some (sp_p2 b r 31) := cr_ring hB hC hr (c := 4) (by decide)
theorem cr_l6 {V : cr_Hp} {b : Nat → Int32} {n k j : Nat} (hC : cr_C 0 V b n k) (hj : j < n) (l : cr_lie b j) : V (0 + 1 + 2 + j) 6 = 1 := by
  rcases hC.2.2.2.2.1 j hj with ⟨-, h, -⟩ | ⟨h, -, -⟩
  · exact h
  · exact absurd l h
/-- the way out: the class's -/
abbrev sp_ow (b : Nat → Int32) (k : Nat) (X Y : Int32) (s : Nat) : Prop := ∃ d, d < 8 ∧ sp_od b k X Y (nI s) d
theorem cr_qway {V : cr_Hp} {b : Nat → Int32} {n k j : Nat} (hB : cr_B b n k) (hC : cr_C 0 V b n k) (hj : j < n) (l : cr_lie b j) : (∀ s, s ≤ 30 → sp_ow b k (b (8 + 5 * j)) (b (8 + 5 * j + 1)) s → (∀ e, e < s → ¬ sp_ow b k (b (8 + 5 * j)) (b (8 + 5 * j + 1)) e) → f_X7_wayOut (nI j) V = some (nI s)) ∧ ((∀ s, s ≤ 30 → ¬ sp_ow b k (b (8 + 5 * j)) (b (8 + 5 * j + 1)) s) → f_X7_wayOut (nI j) V = some (-1006)) := by
  have hn := hB.1
  obtain ⟨e1, e2, -, -⟩ := hC.2.2.2.1 j hj
  have l6 := cr_l6 hC hj l
  have hX : f_X7_wayOut (nI j) V = cr_bd (cr_it (fun (q : Int32) => f_X7_wayOut_l30 (0 + 1 + 2 + j) q V) cr_FU (0 : Int32)) (cr_sm (fun (u3_30_48 : Int32) => some u3_30_48) (fun (_ : Unit) => some (-1006 : Int32))) := by
    unfold f_X7_wayOut
    rw [cr_find_s hB hC hj, cr_bd_some, cr_on_1, cr_gd_e (cr_ms_ma (cr_pg_ms hC.1) (by omega)), l6, if_neg (by decide)]
  have st : ∀ i, i ≤ 30 → ¬ sp_ow b k (b (8 + 5 * j)) (b (8 + 5 * j + 1)) i → f_X7_wayOut_l30 (0 + 1 + 2 + j) (nI i) V = some (.inl (nI (i + 1))) := by
    intro i hi h
    unfold f_X7_wayOut_l30
    rw [if_neg (cr_n30 (by omega)), cr_outN hB hC (by rw [e1, e2]; exact fun d hd hh => h ⟨d, hd, hh⟩), cr_bd_some, if_pos (by decide), cr_1]
  refine ⟨fun s hs ho hl => ?_, fun hno => ?_⟩
  · rw [hX]
    refine Eq.trans (cr_bd_for (fun i => nI i) s (r := .inl (nI s)) (fun i hi => st i (by omega) (hl i hi)) ?_ (by omega) rfl) rfl
    show f_X7_wayOut_l30 (0 + 1 + 2 + j) (nI s) V = _
    unfold f_X7_wayOut_l30
    rw [if_neg (cr_n30 (by omega)), cr_outY hB hC (by rw [e1, e2]; exact ho), cr_bd_some, if_neg (by decide)]
  · rw [hX]
    refine Eq.trans (cr_bd_for (fun i => nI i) 31 (r := .inr ()) (fun i hi => st i (by omega) (hno i (by omega))) ?_ (by omega) rfl) rfl
    show f_X7_wayOut_l30 (0 + 1 + 2 + j) (nI 31) V = _
    unfold f_X7_wayOut_l30
    rw [if_pos cr_p30]
/-- the law's directions are the class's -/
def sp_lx (d : Nat) : Int32 := (nI d / (3 : Int32)) - (1 : Int32)
def sp_ly (d : Nat) : Int32 := ((nI d - nI d / (3 : Int32) * (3 : Int32)) - (1 : Int32))
abbrev sp_ol (b : Nat → Int32) (k : Nat) (X Y s : Int32) (d : Nat) : Prop := ¬ d = 4 ∧ (¬ (X + s * sp_lx d) < 0 ∧ ¬ (31 : Int32) ≤ (X + s * sp_lx d) ∧ ¬ (Y + s * sp_ly d) < 0 ∧ ¬ (31 : Int32) ≤ (Y + s * sp_ly d)) ∧ sp_rs b (X + s * sp_lx d) (Y + s * sp_ly d) k = 0
theorem cr_dirs1 : ∀ d : Fin 9, ¬ d.val = 4 → ∃ e : Fin 8, sp_lx d.val = cr_sx e.val ∧ sp_ly d.val = cr_sy e.val := by decide
theorem cr_dirs2 : ∀ e : Fin 8, ∃ d : Fin 9, ¬ d.val = 4 ∧ sp_lx d.val = cr_sx e.val ∧ sp_ly d.val = cr_sy e.val := by decide
theorem cr_31 {x : Int32} : (¬ (31 : Int32) ≤ x) ↔ ¬ (30 : Int32) < x := by
  rw [Int32.le_iff_toInt_le, Int32.lt_iff_toInt_lt]
  have h1 : (31 : Int32).toInt = 31 := by decide
  have h2 : (30 : Int32).toInt = 30 := by decide
  omega
theorem cr_ol_ow {b : Nat → Int32} {k s : Nat} {X Y : Int32} : (∃ d, d < 9 ∧ sp_ol b k X Y (nI s) d) ↔ sp_ow b k X Y s := by
  constructor
  · rintro ⟨d, hd, h4, ⟨a1, a2, a3, a4⟩, h⟩
    obtain ⟨e, e1, e2⟩ := cr_dirs1 ⟨d, hd⟩ h4
    have e1 : sp_lx d = cr_sx e.val := e1
    have e2 : sp_ly d = cr_sy e.val := e2
    rw [e1] at a1 a2 h
    rw [e2] at a3 a4 h
    exact ⟨e.val, e.isLt, ⟨a1, cr_31.mp a2, a3, cr_31.mp a4⟩, h⟩
  · rintro ⟨e, he, ⟨a1, a2, a3, a4⟩, h⟩
    obtain ⟨d, h4, e1, e2⟩ := cr_dirs2 ⟨e, he⟩
    have e1 : sp_lx d.val = cr_sx e := e1
    have e2 : sp_ly d.val = cr_sy e := e2
    refine ⟨d.val, d.isLt, h4, ?_⟩
    rw [e1, e2]
    exact ⟨⟨a1, cr_31.mpr a2, a3, cr_31.mpr a4⟩, h⟩
theorem cr_Lway_st {aq am ar n k d : Nat} {V : cr_Hp} {b : Nat → Int32} {x1 x5 z0 X Y r85 s w : Int32} (hB : cr_B b n k) (hR : cr_R aq am ar V b n k) (hd : d < 9) : f_L_same_l264 aq am ar x1 x5 z0 X Y r85 s w (nI d) V = some (.inl ((if sp_ol b k X Y s d then s else w), nI (d + 1))) := by
  unfold f_L_same_l264
  rw [if_neg (show ¬ (9 : Int32) ≤ nI d from by rw [cr_L9]; exact nI_ge hd (by decide)), cr_lt_e, cr_1]
  by_cases h4 : d = 4
  · rw [if_pos (show nI d = (4 : Int32) by rw [h4]; rfl), if_neg (fun h => h.1 h4)]
  · have h4' : ¬ nI d = (4 : Int32) := fun e => h4 ((nI_eq (by omega) (by decide)).mp (e.trans cr_L4))
    rw [if_neg h4']
    show (if X + s * sp_lx d < 0 then _ else (if (31 : Int32) ≤ X + s * sp_lx d then _ else (if Y + s * sp_ly d < 0 then _ else (if (31 : Int32) ≤ Y + s * sp_ly d then _ else cr_bd (f_L_rings aq ar (X + s * sp_lx d) (Y + s * sp_ly d) V) _)))) = _
    rw [cr_Lrings hB hR, cr_bd_some]
    by_cases a1 : X + s * sp_lx d < 0
    · rw [if_pos a1, if_neg (fun h => h.2.1.1 a1)]
    · rw [if_neg a1]
      by_cases a2 : (31 : Int32) ≤ X + s * sp_lx d
      · rw [if_pos a2, if_neg (fun h => h.2.1.2.1 a2)]
      · rw [if_neg a2]
        by_cases a3 : Y + s * sp_ly d < 0
        · rw [if_pos a3, if_neg (fun h => h.2.1.2.2.1 a3)]
        · rw [if_neg a3]
          by_cases a4 : (31 : Int32) ≤ Y + s * sp_ly d
          · rw [if_pos a4, if_neg (fun h => h.2.1.2.2.2 a4)]
          · rw [if_neg a4]
            by_cases a5 : sp_rs b (X + s * sp_lx d) (Y + s * sp_ly d) k = 0
            · rw [if_pos a5, if_pos ⟨h4, ⟨a1, a2, a3, a4⟩, a5⟩]
            · rw [if_neg a5, if_neg (fun h => a5 h.2.2)]
theorem cr_Lway9 {aq am ar n k s : Nat} {V : cr_Hp} {b : Nat → Int32} {x1 x5 z0 X Y r85 w : Int32} (hB : cr_B b n k) (hR : cr_R aq am ar V b n k) : ∃ r, cr_it (fun (q : Int32 × Int32) => f_L_same_l264 aq am ar x1 x5 z0 X Y r85 (nI s) q.1 q.2 V) cr_FU (w, (0 : Int32)) = some r ∧ (sp_ow b k X Y s → r = nI s) ∧ (¬ sp_ow b k X Y s → r = w) := by
  refine cr_inv (f := fun (q : Int32 × Int32) => f_L_same_l264 aq am ar x1 x5 z0 X Y r85 (nI s) q.1 q.2 V) (fun i q => q.2 = nI i ∧ (∀ d, d < i → sp_ol b k X Y (nI s) d → q.1 = nI s) ∧ (¬ sp_ow b k X Y s → q.1 = w)) (fun r => (sp_ow b k X Y s → r = nI s) ∧ (¬ sp_ow b k X Y s → r = w)) (n := 9) (fun i hi q hq => ?_) (fun q hq => ?_) 9 0 cr_FU (w, (0 : Int32)) rfl (show 9 < 100000 by decide) ⟨rfl, fun d hd => absurd hd (by omega), fun _ => rfl⟩
  · obtain ⟨q1, q2⟩ := q
    obtain ⟨h1, h2, h3⟩ := hq
    dsimp only at h1 h2 h3
    subst h1
    refine ⟨((if sp_ol b k X Y (nI s) i then nI s else q1), nI (i + 1)), cr_Lway_st hB hR hi, rfl, fun d hd ho => ?_, fun hn => ?_⟩
    · show (if _ then _ else _) = _
      by_cases hc : sp_ol b k X Y (nI s) i
      · rw [if_pos hc]
      · rw [if_neg hc]
        rcases Nat.lt_or_ge d i with h | h
        · exact h2 d h ho
        · rw [show d = i by omega] at ho; exact absurd ho hc
    · show (if _ then _ else _) = _
      rw [if_neg (fun hc => hn (cr_ol_ow.mp ⟨i, hi, hc⟩))]
      exact h3 hn
  · obtain ⟨q1, q2⟩ := q
    obtain ⟨h1, h2, h3⟩ := hq
    dsimp only at h1 h2 h3
    subst h1
    refine ⟨q1, ?_, fun ho => ?_, h3⟩
    · show f_L_same_l264 aq am ar x1 x5 z0 X Y r85 (nI s) q1 (nI 9) V = _
      unfold f_L_same_l264
      rw [if_pos (show (9 : Int32) ≤ nI 9 by decide)]
    · obtain ⟨d, hd, hh⟩ := cr_ol_ow.mpr ho
      exact h2 d hd hh
theorem cr_Lway0 {aq am ar : Nat} {V : cr_Hp} {x1 x5 z0 X Y w : Int32} : cr_it (fun (q : Int32 × Int32) => f_L_same_l251 aq am ar x1 x5 z0 X Y (0 : Int32) q.1 q.2 V) cr_FU (w, (30 : Int32)) = some w := by
  refine cr_it_r (fuel := 99999) ?_
  show f_L_same_l251 aq am ar x1 x5 z0 X Y (0 : Int32) w (30 : Int32) V = _
  unfold f_L_same_l251
  rw [if_neg (by decide), if_pos rfl]
theorem cr_Lway {aq am ar n k : Nat} {V : cr_Hp} {b : Nat → Int32} {x1 x5 z0 X Y r85 : Int32} (hB : cr_B b n k) (hR : cr_R aq am ar V b n k) (h85 : ¬ r85 = 0) : ∃ r, cr_it (fun (q : Int32 × Int32) => f_L_same_l251 aq am ar x1 x5 z0 X Y r85 q.1 q.2 V) cr_FU ((-1006 : Int32), (30 : Int32)) = some r ∧ (∀ s, 1 ≤ s → s ≤ 30 → sp_ow b k X Y s → (∀ e, 1 ≤ e → e < s → ¬ sp_ow b k X Y e) → r = nI s) ∧ ((∀ e, 1 ≤ e → e ≤ 30 → ¬ sp_ow b k X Y e) → r = -1006) := by
  refine cr_inv (f := fun (q : Int32 × Int32) => f_L_same_l251 aq am ar x1 x5 z0 X Y r85 q.1 q.2 V) (fun i q => q.2 = nI (30 - i) ∧ (∀ s, 1 ≤ s → 30 - i < s → s ≤ 30 → sp_ow b k X Y s → (∀ e, 1 ≤ e → e < s → ¬ sp_ow b k X Y e) → q.1 = nI s) ∧ ((∀ e, 1 ≤ e → e ≤ 30 → ¬ sp_ow b k X Y e) → q.1 = -1006)) (fun r => (∀ s, 1 ≤ s → s ≤ 30 → sp_ow b k X Y s → (∀ e, 1 ≤ e → e < s → ¬ sp_ow b k X Y e) → r = nI s) ∧ ((∀ e, 1 ≤ e → e ≤ 30 → ¬ sp_ow b k X Y e) → r = -1006)) (n := 30) (fun i hi q hq => ?_) (fun q hq => ?_) 30 0 cr_FU ((-1006 : Int32), (30 : Int32)) rfl (show 30 < 100000 by decide) ⟨rfl, fun s h1 h2 h3 => absurd h2 (by omega), fun _ => rfl⟩
  · obtain ⟨q1, q2⟩ := q
    obtain ⟨h1, h2, h3⟩ := hq
    dsimp only at h1 h2 h3
    subst h1
    obtain ⟨r, e, r1, r2⟩ := cr_Lway9 (s := 30 - i) (x1 := x1) (x5 := x5) (z0 := z0) (X := X) (Y := Y) (r85 := r85) (w := q1) hB hR
    refine ⟨(r, nI (30 - (i + 1))), ?_, rfl, fun s s1 s2 s3 s4 s5 => ?_, fun hn => ?_⟩
    · show f_L_same_l251 aq am ar x1 x5 z0 X Y r85 q1 (nI (30 - i)) V = _
      unfold f_L_same_l251
      have em : nI (30 - i) + (-1 : Int32) = nI (30 - (i + 1)) := by
        have h2 : nI (30 - i) - nI 1 = nI (30 - i - 1) := pk_sub (by omega)
        rw [show (-1 : Int32) = -(nI 1) by decide, ← Int32.sub_eq_add_neg, h2]
        rfl
      rw [if_neg (nI_nle (by omega) (by omega)), if_neg h85, e, cr_bd_some, em]
    · show r = nI s
      by_cases hs : s = 30 - i
      · rw [hs]; rw [hs] at s4; exact r1 s4
      · have hs2 : 30 - i < s := by omega
        rw [r2 (s5 (30 - i) (by omega) hs2)]
        exact h2 s s1 hs2 s3 s4 s5
    · show r = -1006
      rw [r2 (hn (30 - i) (by omega) (by omega))]
      exact h3 hn
  · obtain ⟨q1, q2⟩ := q
    obtain ⟨h1, h2, h3⟩ := hq
    dsimp only at h1 h2 h3
    subst h1
    refine ⟨q1, ?_, fun s s1 s2 => h2 s s1 (by omega) s2, h3⟩
    show f_L_same_l251 aq am ar x1 x5 z0 X Y r85 q1 (nI (30 - 30)) V = _
    unfold f_L_same_l251
    rw [if_pos (by decide)]

