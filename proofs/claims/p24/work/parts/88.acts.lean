/-! the class's acts, by the board -/
def cr_IX (V : cr_Hp) (b : Nat → Int32) (n k : Nat) : Prop := ∃ m H L T, cr_IC V b n k m H L T
theorem cr_IX.B {V : cr_Hp} {b : Nat → Int32} {n k : Nat} (h : cr_IX V b n k) : cr_B b n k := by
  obtain ⟨m, H, L, T, h⟩ := h
  exact h.1
theorem cr_IX.C {V : cr_Hp} {b : Nat → Int32} {n k : Nat} (h : cr_IX V b n k) : cr_C 0 V b n k := by
  obtain ⟨m, H, L, T, h⟩ := h
  exact h.2.1
theorem cr_IX.fr {V W : cr_Hp} {b : Nat → Int32} {n k : Nat} (h : cr_IX V b n k) (hf : ∀ c, c < 159 → W c = V c) : cr_IX W b n k := by
  obtain ⟨m, H, L, T, h⟩ := h
  exact ⟨m, H, L, T, cr_IC_fr h hf⟩
theorem cr_pN {X Y : Nat} (hX : X ≤ 30) (hY : Y ≤ 30) : ¬ nI X < 0 ∧ ¬ (30 : Int32) < nI X ∧ ¬ nI Y < 0 ∧ ¬ (30 : Int32) < nI Y := ⟨cr_nn (by omega), cr_n30 (by omega), cr_nn (by omega), cr_n30 (by omega)⟩
theorem cr_sN {S M : Nat} (h1 : 1 ≤ S) (h2 : S ≤ M) (hM : M < 100) : ¬ nI S < 1 ∧ nI S ≤ nI M := ⟨by rw [cr_L1]; exact nI_nlt h1 (by omega), nI_le h2 (by omega)⟩
theorem cr_c_put {V : cr_Hp} {b : Nat → Int32} {n k X Y S O : Nat} (h : cr_IX V b n k) (hX : X ≤ 30) (hY : Y ≤ 30) (h1 : 1 ≤ S) (h3 : S ≤ 3) (hO : O < 3) :
    ((∃ i, i < n ∧ cr_on_pt b i (nI X) (nI Y)) → f_X7_putMarble (nI X) (nI Y) (nI S) (nI O) V = some (-1003, V)) ∧
    ((∀ i, i < n → ¬ cr_on_pt b i (nI X) (nI Y)) → (n = 12 → f_X7_putMarble (nI X) (nI Y) (nI S) (nI O) V = some (-1004, V)) ∧
      (n < 12 → ∃ W, f_X7_putMarble (nI X) (nI Y) (nI S) (nI O) V = some (nI n, W) ∧ cr_IX W (sp_put b n (nI X) (nI Y) (nI S) (nI O)) (n + 1) k ∧ ∀ c, 159 ≤ c → W c = V c)) := by
  obtain ⟨m, H, L, T, hI⟩ := h
  have hB := hI.1
  have hC := hI.2.1
  have hn := hB.1
  have v2 : V 0 2 = nI n := (hC.2.1 0 (by decide)).trans hB.2.2.1
  have hs : ¬ nI S < 1 ∧ nI S ≤ 3 := cr_sN h1 h3 (by decide)
  have hp := cr_pN hX hY
  refine ⟨fun ⟨i, hi, ho⟩ => ?_, fun ho => ⟨fun h12 => ?_, fun h12 => ?_⟩⟩
  · unfold f_X7_putMarble f_X3_refusalOfMarble
    rw [cr_pt2a, cr_bd_some, if_pos hp, if_neg (by decide), cr_isPlY hO, cr_bd_some, if_neg (by decide), if_neg hs.1, if_pos hs.2, cr_marbleOn_s hB hC hi ho, cr_bd_some, cr_on_1, cr_gd_e (cr_ms_ma (cr_pg_ms hC.1) (by omega)), cr_bd_some, if_neg (by decide)]
  · unfold f_X7_putMarble f_X3_refusalOfMarble
    rw [cr_pt2a, cr_bd_some, if_pos hp, if_neg (by decide), cr_isPlY hO, cr_bd_some, if_neg (by decide), if_neg hs.1, if_pos hs.2, cr_marbleOn_n hB hC ho, cr_bd_some, cr_on_0, v2, h12, if_neg (by decide), cr_bd_some, if_neg (by decide)]
  · obtain ⟨W, e, hW, hf⟩ := cr_save hI
    obtain ⟨W1, e1, hC1, hf1⟩ := cr_add (x := nI X) (y := nI Y) (s := nI S) (o := nI O) hW.1 hW.2.1 h12
    have hB1 := cr_B_put hB h12 hX hY h1 h3 hO ho
    refine ⟨W1, ?_, ⟨_, _, _, _, cr_IC_b hW hB1 hC1 (fun c c1 _ _ => hf1 c (by omega)) (fun j hj => by rw [hf1 _ (by omega)]; exact hW.2.2.1 19 (by omega) j hj)⟩, fun c hc => by rw [hf1 c (by omega), hf c (by omega)]⟩
    unfold f_X7_putMarble f_X3_refusalOfMarble
    rw [cr_pt2a, cr_bd_some, if_pos hp, if_neg (by decide), cr_isPlY hO, cr_bd_some, if_neg (by decide), if_neg hs.1, if_pos hs.2, cr_marbleOn_n hB hC ho, cr_bd_some, cr_on_0, v2, cr_L12, if_pos (nI_lt (by omega) (by decide)), cr_bd_some, if_pos (by decide), e, cr_bd_some, e1, cr_b2_some]
theorem cr_c_draw {V : cr_Hp} {b : Nat → Int32} {n k X Y D : Nat} (h : cr_IX V b n k) (hX : X ≤ 30) (hY : Y ≤ 30) (h1 : 1 ≤ D) (h15 : D ≤ 15) :
    (k = 4 → f_X7_drawRing (nI X) (nI Y) (nI D) V = some (-1004, V)) ∧
      (k < 4 → ∃ W, f_X7_drawRing (nI X) (nI Y) (nI D) V = some (nI k, W) ∧ cr_IX W (sp_dr b k (nI X) (nI Y) (nI D)) n (k + 1) ∧ ∀ c, 159 ≤ c → W c = V c) := by
  obtain ⟨m, H, L, T, hI⟩ := h
  have hB := hI.1
  have hC := hI.2.1
  have hk := hB.2.1
  have v3 : V 0 3 = nI k := (hC.2.1 1 (by decide)).trans hB.2.2.2.1
  have hs : ¬ nI D < 1 ∧ nI D ≤ 15 := cr_sN h1 h15 (by decide)
  have hp := cr_pN hX hY
  refine ⟨fun h4 => ?_, fun h4 => ?_⟩
  · unfold f_X7_drawRing f_X3_refusalOfRing
    rw [cr_pt2a, cr_bd_some, if_pos hp, if_neg (by decide), if_neg hs.1, if_pos hs.2, v3, h4, if_neg (by decide), cr_bd_some, if_neg (by decide)]
  · obtain ⟨W, e, hW, hf⟩ := cr_save hI
    obtain ⟨W1, e1, hC1, hf1⟩ := cr_addR (x := nI X) (y := nI Y) (d := nI D) hW.1 hW.2.1 h4
    have hB1 := cr_B_dr hB h4 hX hY h1 h15
    refine ⟨W1, ?_, ⟨_, _, _, _, cr_IC_b hW hB1 hC1 (fun c c1 _ _ => hf1 c (by omega)) (fun j hj => by rw [hf1 _ (by omega)]; exact hW.2.2.1 19 (by omega) j hj)⟩, fun c hc => by rw [hf1 c (by omega), hf c (by omega)]⟩
    unfold f_X7_drawRing f_X3_refusalOfRing
    rw [cr_pt2a, cr_bd_some, if_pos hp, if_neg (by decide), if_neg hs.1, if_pos hs.2, v3, cr_L4, if_pos (nI_lt (by omega) (by decide)), cr_bd_some, if_pos (by decide), e, cr_bd_some, e1, cr_b2_some]
theorem cr_c_move0 {V : cr_Hp} {b : Nat → Int32} {n k j : Nat} {x y : Int32} (h : cr_IX V b n k) (hj : n ≤ j) (hj2 : j < 100) : f_X7_move (nI j) x y V = some (-1001, V) := by
  unfold f_X7_move
  rw [cr_find_n h.B h.C (Or.inr (nI_le hj (by omega))), cr_bd_some, cr_on_0]
theorem cr_c_move {V : cr_Hp} {b : Nat → Int32} {n k j X Y : Nat} (h : cr_IX V b n k) (hj : j < n) (hX : X ≤ 30) (hY : Y ≤ 30) :
    ((¬ cr_lie b j ∨ ∃ i, i < n ∧ cr_on_pt b i (nI X) (nI Y)) → f_X7_move (nI j) (nI X) (nI Y) V = some (-1003, V)) ∧
      (cr_lie b j → (∀ i, i < n → ¬ cr_on_pt b i (nI X) (nI Y)) → ∃ W, f_X7_move (nI j) (nI X) (nI Y) V = some (sp_on (sp_rs b (nI X) (nI Y) k) 4, W) ∧ cr_IX W (sp_mv b j (nI X) (nI Y)) n k ∧ ∀ c, 159 ≤ c → W c = V c) := by
  obtain ⟨m, H, L, T, hI⟩ := h
  have hB := hI.1
  have hC := hI.2.1
  have hn := hB.1
  have hk := hB.2.1
  have hp := cr_pN hX hY
  have hma := cr_ms_ma (cr_pg_ms hC.1) (show j < 12 by omega)
  refine ⟨fun hh => ?_, fun l ho => ?_⟩
  · unfold f_X7_move
    rw [cr_find_s hB hC hj, cr_bd_some, cr_on_1, cr_gd_e hma, cr_pt2a, cr_bd_some, if_pos hp, if_neg (by decide)]
    rcases hC.2.2.2.2.1 j hj with ⟨l, l6, -⟩ | ⟨l, l6, -⟩
    · rcases hh with hh | ⟨i, hi, ho⟩
      · exact absurd l hh
      · rw [l6, if_neg (by decide), cr_marbleOn_s hB hC hi ho, cr_bd_some, cr_on_1, cr_gd_e (cr_ms_ma (cr_pg_ms hC.1) (by omega))]
    · rw [l6, if_pos (by decide)]
  · have l6 : V (0 + 1 + 2 + j) 6 = 1 := by
      rcases hC.2.2.2.2.1 j hj with ⟨-, h, -⟩ | ⟨h, -, -⟩
      · exact h
      · exact absurd l h
    obtain ⟨W, e, hW, hf⟩ := cr_save hI
    have hC1 := cr_C_mv (x := nI X) (y := nI Y) hn hW.2.1 hj
    have hB1 := cr_B_mv hB hj hX hY ho
    obtain ⟨W1, ew1⟩ : ∃ W1, W1 = cr_pt (cr_pt W (0 + 1 + 2 + j) 1 (nI X)) (0 + 1 + 2 + j) 2 (nI Y) := ⟨_, rfl⟩
    rw [← ew1] at hC1
    have hf1 : ∀ c, 19 ≤ c → W1 c = W c := fun c hc => by rw [ew1, cr_pt_ne (by omega), cr_pt_ne (by omega)]
    obtain ⟨s, s1, s2⟩ := sp_rs_16 (b := sp_mv b j (nI X) (nI Y)) (x := nI X) (y := nI Y) hk
    have s3 : sp_rs b (nI X) (nI Y) k = nI s := by rw [← s2]; exact (sp_rs_mv (by omega)).symm
    refine ⟨W1, ?_, ⟨_, _, _, _, cr_IC_b hW hB1 hC1 (fun c c1 _ _ => hf1 c (by omega)) (fun j hj => by rw [hf1 _ (by omega)]; exact hW.2.2.1 19 (by omega) j hj)⟩, fun c hc => by rw [hf1 c (by omega), hf c (by omega)]⟩
    unfold f_X7_move
    rw [cr_find_s hB hC hj, cr_bd_some, cr_on_1, cr_gd_e hma, cr_pt2a, cr_bd_some, if_pos hp, if_neg (by decide), l6, if_neg (by decide), cr_marbleOn_n hB hC ho, cr_bd_some, cr_on_0, e, cr_bd_some, cr_lt_e, cr_lt_e, ← ew1, cr_ringsAround hB1 hC1, cr_bd_some, s2, cr_bits_1 ⟨s, s1⟩, cr_bd_some, s3]
theorem cr_c_pass {V : cr_Hp} {b : Nat → Int32} {n k : Nat} (h : cr_IX V b n k) : ∃ W, f_X7_pass V = some (sp_nx b 2, W) ∧ cr_IX W (sp_nx b) n k ∧ ∀ c, 159 ≤ c → W c = V c := by
  obtain ⟨m, H, L, T, hI⟩ := h
  obtain ⟨W, e, hW, hf⟩ := cr_save hI
  obtain ⟨W1, e1, hC1, hf1⟩ := cr_next hW.1 hW.2.1
  refine ⟨W1, ?_, ⟨_, _, _, _, cr_IC_b hW (cr_B_nx hI.1) hC1 (fun c c1 _ _ => hf1 c (by omega)) (fun j hj => by rw [hf1 _ (by omega)]; exact hW.2.2.1 19 (by omega) j hj)⟩, fun c hc => by rw [hf1 c (by omega), hf c (by omega)]⟩
  unfold f_X7_pass
  rw [e, cr_bd_some, e1, cr_bd_some, hC1.2.1 2 (by decide)]
theorem cr_c_clear {V : cr_Hp} {b : Nat → Int32} {n k : Nat} (h : cr_IX V b n k) : ∃ W, f_X7_clear V = some (nI n, W) ∧ cr_IX W (fun _ => 0) 0 0 ∧ ∀ c, 159 ≤ c → W c = V c := by
  obtain ⟨m, H, L, T, hI⟩ := h
  obtain ⟨W, e, hW, hf⟩ := cr_save hI
  obtain ⟨W1, e1, hC1, hf1⟩ := cr_wipe hW.2.1.2.2.1
  have hb0 : b 0 = nI n := hI.1.2.2.1
  refine ⟨W1, ?_, ⟨_, _, _, _, cr_IC_b hW cr_B_0 hC1 (fun c c1 _ _ => hf1 c (by omega)) (fun j hj => by rw [hf1 _ (by omega)]; exact hW.2.2.1 19 (by omega) j hj)⟩, fun c hc => by rw [hf1 c (by omega), hf c (by omega)]⟩
  unfold f_X7_clear
  rw [hI.2.1.2.1 0 (by decide), hb0, cr_lt_e, e, cr_bd_some, e1, cr_bd_some]
theorem cr_flN {D S : Nat} (hD : D < 8) (h1 : 1 ≤ S) (h40 : S ≤ 40) : f_X7_isDirection (nI D) = some 1 ∧ f_X7_isStrength (nI S) = some 1 := by
  have hs : ¬ nI S < 1 ∧ nI S ≤ 40 := cr_sN h1 h40 (by decide)
  refine ⟨cr_isDir hD, ?_⟩
  unfold f_X7_isStrength
  rw [if_neg hs.1, if_neg (cr_nlt.mpr hs.2)]
theorem cr_c_flick0 {V : cr_Hp} {b : Nat → Int32} {n k j D S : Nat} (h : cr_IX V b n k) (hj : j < n) (hD : D < 8) (h1 : 1 ≤ S) (h40 : S ≤ 40) (hh : ¬ cr_lie b j ∨ ¬ b (8 + 5 * j + 3) = b 2) : f_X7_flick (nI j) (nI D) (nI S) V = some (-1003, V) := by
  have hB := h.B
  have hC := h.C
  have hn := hB.1
  have hma := cr_ms_ma (cr_pg_ms hC.1) (show j < 12 by omega)
  obtain ⟨-, -, -, q4⟩ := hC.2.2.2.1 j hj
  have v4 : V 0 4 = b 2 := hC.2.1 2 (by decide)
  unfold f_X7_flick
  rw [cr_find_s hB hC hj, cr_bd_some, cr_on_1, cr_gd_e hma, (cr_flN hD h1 h40).1, cr_bd_some, if_neg (by decide), (cr_flN hD h1 h40).2, cr_bd_some, if_neg (by decide)]
  rcases hC.2.2.2.2.1 j hj with ⟨l, l6, -⟩ | ⟨l, l6, -⟩
  · rw [l6, if_neg (by decide), q4, v4, if_neg (hh.resolve_left (fun g => g l))]
  · rw [l6, if_pos (by decide)]
theorem cr_c_flick {V : cr_Hp} {b : Nat → Int32} {n k j D S p : Nat} (h : cr_IX V b n k) (hj : j < n) (hD : D < 8) (h1 : 1 ≤ S) (h40 : S ≤ 40) (hp : p < 3) (ep : b (8 + 5 * j + 3) = nI p) (l : cr_lie b j) (ho : b (8 + 5 * j + 3) = b 2) :
    ∃ m dx dy S' hh w ht b1 W, sp_E n k (j, cr_sx D, cr_sy D, S, 0, 0, fun _ => false, b) (m, dx, dy, S', hh, w, ht, b1) ∧ f_X7_flick (nI j) (nI D) (nI S) V = some ((sp_tk k (nI p) (sp_ra b k) ht b1 n).2.1, W) ∧ cr_IX W (if (sp_tk k (nI p) (sp_ra b k) ht b1 n).2.1 = 0 then sp_nx (sp_af k n (nI p) b hh w ht b1) else sp_af k n (nI p) b hh w ht b1) n k ∧ ∀ c, 159 ≤ c → W c = V c := by
  obtain ⟨m, H, L, T, hI⟩ := h
  have hB := hI.1
  have hC := hI.2.1
  have hn := hB.1
  have hma := cr_ms_ma (cr_pg_ms hC.1) (show j < 12 by omega)
  obtain ⟨-, -, -, q4⟩ := hC.2.2.2.1 j hj
  have v4 : V 0 4 = b 2 := hC.2.1 2 (by decide)
  have l6 : V (0 + 1 + 2 + j) 6 = 1 := by
    rcases hC.2.2.2.2.1 j hj with ⟨-, h, -⟩ | ⟨h, -, -⟩
    · exact h
    · exact absurd l h
  obtain ⟨W, e, hW, hf⟩ := cr_save hI
  obtain ⟨m1, dx1, dy1, S1, h1', w1, ht1, b1, W1, zE, zK, e1, hC1, x0, -, -, -, -, -, hf1⟩ := cr_play hB hW.2.1 hj hD h40 hp ep
  have hBa : cr_B (sp_af k n (nI p) b h1' w1 ht1 b1) n k := cr_B_af zK.1 hp
  refine ⟨m1, dx1, dy1, S1, h1', w1, ht1, b1, W1, zE, ?_, ⟨_, _, _, _, cr_IC_b hW ?_ hC1 (fun c c1 _ c3 => hf1 c (by omega) (by omega)) (fun j hj => by rw [hf1 _ (by omega) (by omega)]; exact hW.2.2.1 19 (by omega) j hj)⟩, fun c hc => by rw [hf1 c (by omega) (by omega), hf c (by omega)]⟩
  · unfold f_X7_flick
    rw [cr_find_s hB hC hj, cr_bd_some, cr_on_1, cr_gd_e hma, (cr_flN hD h1 h40).1, cr_bd_some, if_neg (by decide), (cr_flN hD h1 h40).2, cr_bd_some, if_neg (by decide), l6, if_neg (by decide), q4, ho, v4, if_pos rfl, e, cr_bd_some, e1, cr_bd_some, x0]
  · by_cases h0 : (sp_tk k (nI p) (sp_ra b k) ht1 b1 n).2.1 = 0
    · rw [if_pos h0]; exact cr_B_nx hBa
    · rw [if_neg h0]; exact hBa
/-- what a flick would bring, number by number -/
def sp_rc (c m h : Nat) (t1 t2 : Int32) (b1 : Nat → Int32) : Int32 := if c = 0 then t1 else if c = 1 then t2 else if c = 2 then nI h else if c = 3 then nI m else ((100 : Int32) * b1 (8 + 5 * m)) + b1 (8 + 5 * m + 1)
theorem cr_c_iff0 {V : cr_Hp} {b : Nat → Int32} {n k j D S c : Nat} (h : cr_IX V b n k) (hj : j < n) (hD : D < 8) (h1 : 1 ≤ S) (h40 : S ≤ 40) (hc : c < 5) (l : ¬ cr_lie b j) : f_X7_ifFlicked (nI j) (nI D) (nI S) (nI c) V = some (-1003, V) := by
  have hB := h.B
  have hC := h.C
  have hn := hB.1
  have hma := cr_ms_ma (cr_pg_ms hC.1) (show j < 12 by omega)
  have l6 : V (0 + 1 + 2 + j) 6 = 0 := by
    rcases hC.2.2.2.2.1 j hj with ⟨h, -, -⟩ | ⟨-, h, -⟩
    · exact absurd h l
    · exact h
  unfold f_X7_ifFlicked
  rw [cr_find_s hB hC hj, cr_bd_some, cr_on_1, cr_gd_e hma, (cr_flN hD h1 h40).1, cr_bd_some, if_neg (by decide), (cr_flN hD h1 h40).2, cr_bd_some, if_neg (by decide), if_neg (cr_nn (show c < 2 ^ 31 by omega)), cr_L5, if_pos (nI_lt hc (by decide)), l6, if_pos (by decide)]
theorem cr_c_iff {V : cr_Hp} {b : Nat → Int32} {n k j D S p c : Nat} (h : cr_IX V b n k) (hj : j < n) (hD : D < 8) (h1 : 1 ≤ S) (h40 : S ≤ 40) (hp : p < 3) (ep : b (8 + 5 * j + 3) = nI p) (hc : c < 5) (l : cr_lie b j) :
    ∃ m dx dy S' hh w ht b1 W, sp_E n k (j, cr_sx D, cr_sy D, S, 0, 0, fun _ => false, b) (m, dx, dy, S', hh, w, ht, b1) ∧ f_X7_ifFlicked (nI j) (nI D) (nI S) (nI c) V = some (sp_rc c m hh (sp_tk k (nI p) (sp_ra b k) ht b1 n).2.1 (sp_tk k (nI p) (sp_ra b k) ht b1 n).2.2.1 b1, W) ∧ cr_IX W b n k ∧ ∀ c, 159 ≤ c → W c = V c := by
  obtain ⟨m, H, L, T, hI⟩ := h
  have hB := hI.1
  have hC := hI.2.1
  have hn := hB.1
  have hma := cr_ms_ma (cr_pg_ms hC.1) (show j < 12 by omega)
  have l6 : V (0 + 1 + 2 + j) 6 = 1 := by
    rcases hC.2.2.2.2.1 j hj with ⟨-, h, -⟩ | ⟨h, -, -⟩
    · exact h
    · exact absurd l h
  obtain ⟨m1, dx1, dy1, S1, h1', w1, ht1, b1, W1, zE, zK, e1, hI1, x0, x1, x2, x3, x4, x5, hf1⟩ := cr_try hI hj hD h40 hp ep
  refine ⟨m1, dx1, dy1, S1, h1', w1, ht1, b1, W1, zE, ?_, ⟨_, _, _, _, hI1⟩, fun c hc => hf1 c (by omega)⟩
  unfold f_X7_ifFlicked
  rw [cr_find_s hB hC hj, cr_bd_some, cr_on_1, cr_gd_e hma, (cr_flN hD h1 h40).1, cr_bd_some, if_neg (by decide), (cr_flN hD h1 h40).2, cr_bd_some, if_neg (by decide), if_neg (cr_nn (show c < 2 ^ 31 by omega)), cr_L5, if_pos (nI_lt hc (by decide)), l6, if_neg (by decide), e1, cr_bd_some, x0, x1, x2, x3, x4, x5]
  have hc2 : c = 0 ∨ c = 1 ∨ c = 2 ∨ c = 3 ∨ c = 4 := by omega
  rcases hc2 with rfl | rfl | rfl | rfl | rfl
  · rw [if_pos (by decide)]; rfl
  · rw [if_neg (by decide), if_pos (by decide)]; rfl
  · rw [if_neg (by decide), if_neg (by decide), if_pos (by decide)]; rfl
  · rw [if_neg (by decide), if_neg (by decide), if_neg (by decide), if_pos (by decide)]; rfl
  · rw [if_neg (by decide), if_neg (by decide), if_neg (by decide), if_neg (by decide)]; rfl
theorem cr_c_best (N : Nat) (hN : N = 40) {V : cr_Hp} {b : Nat → Int32} {n k j p : Nat} {Z : Nat → Nat → Int32} (h : cr_IX V b n k) (hj : j < n) (hp : p < 3) (ep : b (8 + 5 * j + 3) = nI p) (l : cr_lie b j) (hZ : ∀ d S, d < 8 → S ≤ 40 → sp_Z n k j p b d S (Z d S)) :
    ∃ W, f_X7_bestFlick (nI j) V = some ((sp_bo Z N).2, W) ∧ cr_IX W b n k ∧ ∀ c, 159 ≤ c → W c = V c := by
  obtain ⟨m, H, L, T, hI⟩ := h
  have hB := hI.1
  have hC := hI.2.1
  have hn := hB.1
  have hma := cr_ms_ma (cr_pg_ms hC.1) (show j < 12 by omega)
  have l6 : V (0 + 1 + 2 + j) 6 = 1 := by
    rcases hC.2.2.2.2.1 j hj with ⟨-, h, -⟩ | ⟨h, -, -⟩
    · exact h
    · exact absurd l h
  obtain ⟨W1, e1, hI1, hf1⟩ := cr_bestC N hN hI hj hp ep hZ
  refine ⟨W1, ?_, ⟨_, _, _, _, hI1⟩, fun c hc => hf1 c (by omega)⟩
  unfold f_X7_bestFlick
  rw [cr_find_s hB hC hj, cr_bd_some, cr_on_1, cr_gd_e hma, l6, if_neg (by decide), e1, cr_bd_some]; rfl
