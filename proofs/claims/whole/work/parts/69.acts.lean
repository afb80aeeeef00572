/-! drawRing, move, clear, pass, the text -/
def sp_dr (b : Nat → Int32) (k : Nat) (x y d : Int32) : Nat → Int32 := upd (upd (upd (upd b (68 + 3 * k) x) (68 + 3 * k + 1) y) (68 + 3 * k + 2) d) 1 (nI (k + 1))
theorem sp_dr_o {b : Nat → Int32} {k t : Nat} {x y d : Int32} (h : t ≠ 1) (h2 : t < 68 + 3 * k ∨ 68 + 3 * k + 3 ≤ t) : sp_dr b k x y d t = b t := by
  unfold sp_dr
  repeat rw [cr_uv]
  repeat rw [if_neg (by omega)]
theorem sp_dr_1 {b : Nat → Int32} {k : Nat} {x y d : Int32} : sp_dr b k x y d 1 = nI (k + 1) := by
  unfold sp_dr
  rw [cr_uv, if_pos rfl]
theorem sp_dr_n {b : Nat → Int32} {k : Nat} {x y d : Int32} : sp_dr b k x y d (68 + 3 * k) = x ∧ sp_dr b k x y d (68 + 3 * k + 1) = y ∧ sp_dr b k x y d (68 + 3 * k + 2) = d := by
  unfold sp_dr
  refine ⟨?_, ?_, ?_⟩
  all_goals
    repeat rw [cr_uv]
    repeat rw [if_neg (by omega)]
    rw [if_pos (by omega)]
theorem cr_B_dr {b : Nat → Int32} {n k X Y D : Nat} (hB : cr_B b n k) (hk4 : k < 4) (hX : X ≤ 30) (hY : Y ≤ 30) (hD1 : 1 ≤ D) (hD : D ≤ 15) : cr_B (sp_dr b k (nI X) (nI Y) (nI D)) n (k + 1) := by
  obtain ⟨hn, hk, b0, b1, b2, bm, br, bd, bz⟩ := hB
  obtain ⟨p0, p1, p2⟩ := @sp_dr_n b k (nI X) (nI Y) (nI D)
  have old : ∀ j, j < n → ∀ c, c < 5 → sp_dr b k (nI X) (nI Y) (nI D) (8 + 5 * j + c) = b (8 + 5 * j + c) := fun j hj c hc => sp_dr_o (by omega) (by omega)
  have old0 : ∀ j, j < n → sp_dr b k (nI X) (nI Y) (nI D) (8 + 5 * j) = b (8 + 5 * j) := fun j hj => old j hj 0 (by omega)
  refine ⟨hn, by omega, by rw [sp_dr_o (by omega) (by omega)]; exact b0, sp_dr_1, by rw [sp_dr_o (by omega) (by omega)]; exact b2, fun j hj => ?_, fun r hr => ?_, fun i j hi hj hij li lj => ?_, fun i hi => by rw [sp_dr_o (by omega) (by omega)]; exact bz i hi⟩
  · rw [old0 j hj, old j hj 1 (by omega), old j hj 2 (by omega), old j hj 3 (by omega), old j hj 4 (by omega)]
    exact bm j hj
  · rcases Nat.lt_or_ge r k with h | h
    · rw [sp_dr_o (by omega) (by omega), sp_dr_o (by omega) (by omega), sp_dr_o (by omega) (by omega)]
      exact br r h
    · rw [show r = k by omega, p0, p1, p2]
      exact ⟨X, Y, D, hX, hY, hD1, hD, rfl, rfl, rfl⟩
  · have li : cr_lie b i := (old i hi 4 (by omega)).symm.trans li
    have lj : cr_lie b j := (old j hj 4 (by omega)).symm.trans lj
    rw [old0 i hi, old0 j hj, old i hi 1 (by omega), old j hj 1 (by omega)]
    exact bd i j hi hj hij li lj
theorem cr_addR {V : cr_Hp} {b : Nat → Int32} {n k : Nat} {x y d : Int32} (hB : cr_B b n k) (hC : cr_C 0 V b n k) (hk4 : k < 4) : ∃ W, f_X3_addRing 0 x y d V = some (nI k, W) ∧ cr_C 0 W (sp_dr b k x y d) n (k + 1) ∧ ∀ c, 19 ≤ c → W c = V c := by
  have v3 : V 0 3 = nI k := (hC.2.1 1 (by decide)).trans hB.2.2.2.1
  have hn := hB.1
  obtain ⟨p0, p1, p2⟩ := @sp_dr_n b k x y d
  unfold f_X3_addRing
  rw [v3, if_neg (cr_nn (by omega)), cr_L4, if_pos (nI_lt hk4 (by decide)), cr_gd_e (cr_ix_nI hk4 (by decide)), nI_clamp (by omega)]
  simp only [cr_lt_e]
  obtain ⟨c1, c2, c3, c4, c5, c6, c7, c8⟩ := hC
  refine ⟨_, congrArg some (Prod.ext ?_ rfl), ⟨by omega, fun c hc => ?_, fun j hj => ?_, fun j hj => ?_, fun j hj => ?_, fun j hj hj2 => ?_, fun r hr => ?_, fun r hr hr4 => ?_⟩, fun c hc => ?_⟩
  · show cr_pt _ _ _ _ _ _ - _ = _
    repeat rw [cr_pv]
    rw [if_pos (by omega)]
    repeat rw [if_neg (by omega)]
    rw [v3, cr_1, cr_L1, pk_sub (by omega)]; rfl
  · repeat rw [cr_pv]
    by_cases h0 : c = 1
    · subst h0
      rw [if_pos ⟨rfl, rfl⟩, sp_dr_1]
      repeat rw [if_neg (by omega)]
      rw [v3, cr_1]
    · repeat rw [if_neg (by omega)]
      rw [c2 c hc, sp_dr_o h0 (by omega)]
  · simp only [cr_pt_ne (show 0 + 1 + 2 + j ≠ 0 + 2 + 13 + k by omega), cr_pt_ne (show 0 + 1 + 2 + j ≠ 0 by omega)]
    exact c3 j hj
  · rw [sp_dr_o (by omega) (by omega), sp_dr_o (by omega) (by omega), sp_dr_o (by omega) (by omega), sp_dr_o (by omega) (by omega)]
    simp only [cr_pt_ne (show 0 + 1 + 2 + j ≠ 0 + 2 + 13 + k by omega), cr_pt_ne (show 0 + 1 + 2 + j ≠ 0 by omega)]
    exact c4 j hj
  · rw [cr_lie, sp_dr_o (by omega) (by omega)]
    simp only [cr_pt_ne (show 0 + 1 + 2 + j ≠ 0 + 2 + 13 + k by omega), cr_pt_ne (show 0 + 1 + 2 + j ≠ 0 by omega)]
    exact c5 j hj
  · simp only [cr_pt_ne (show 0 + 1 + 2 + j ≠ 0 + 2 + 13 + k by omega), cr_pt_ne (show 0 + 1 + 2 + j ≠ 0 by omega)]
    exact c6 j hj hj2
  · rcases Nat.lt_or_ge r k with h | h
    · rw [sp_dr_o (by omega) (by omega), sp_dr_o (by omega) (by omega), sp_dr_o (by omega) (by omega)]
      simp only [cr_pt_ne (show 0 + 2 + 13 + r ≠ 0 + 2 + 13 + k by omega), cr_pt_ne (show 0 + 2 + 13 + r ≠ 0 by omega)]
      exact c7 r h
    · rw [show r = k by omega, p0, p1, p2]
      refine ⟨?_, ?_, ?_⟩
      all_goals
        repeat rw [cr_pv]
        repeat rw [if_neg (by omega)]
        rw [if_pos (by omega)]
  · simp only [cr_pt_ne (show 0 + 2 + 13 + r ≠ 0 + 2 + 13 + k by omega), cr_pt_ne (show 0 + 2 + 13 + r ≠ 0 by omega)]
    exact c8 r (by omega) hr4
  · simp only [cr_pt_ne (show c ≠ 0 + 2 + 13 + k by omega), cr_pt_ne (show c ≠ 0 by omega)]
theorem cr_mdr {V : cr_Hp} {b : Nat → Int32} {n k : Nat} {x y d : Int32} (hB : cr_B b n k) (hV : V 160 = b) (hk : k < 4) : ∃ W, f_X8_draws x y d V = some (nI k, W) ∧ W 160 = sp_dr b k x y d ∧ ∀ c, c ≠ 160 → W c = V c := by
  have e2 : nI (68 + 3 * k) + (2 : Int32) = nI (68 + 3 * k + 2) := nI_add _ 2
  unfold f_X8_draws
  have e0 : ((68 : Int32) + ((3 : Int32) * (V 160 (1 : Int32).toNatClampNeg))) = nI (68 + 3 * k) := by rw [cr_T1, hV, hB.2.2.2.1, cr_L68, cr_L3, pk_mul, nI_add]
  rw [cr_G1, e0, cr_lt_e, Int32.add_zero, cr_1, e2, cr_gd_e (cr_ix_nI (by omega) (by decide)), cr_lt_e, cr_gd_e (cr_ix_nI (by omega) (by decide)), cr_lt_e, cr_gd_e (cr_ix_nI (by omega) (by decide)), cr_lt_e, cr_G1, cr_G1, cr_lt_e, cr_G1, cr_T1, nI_clamp (by omega), nI_clamp (by omega), nI_clamp (by omega)]
  refine ⟨_, congrArg some (Prod.ext ?_ rfl), ?_, fun c hc => ?_⟩
  · show cr_pt _ _ _ _ _ _ - _ = _
    repeat rw [cr_pv]
    rw [if_pos (by omega)]
    repeat rw [if_neg (by omega)]
    rw [hV, hB.2.2.2.1, cr_1, cr_L1, pk_sub (by omega)]; rfl
  · simp only [cr_pt_eq, hV]
    unfold sp_dr
    congr 1
    repeat rw [cr_uv]
    repeat rw [if_neg (by omega)]
    rw [hB.2.2.2.1, cr_1]
  · simp only [cr_pt_ne hc]
theorem cr_whyD {V : cr_Hp} {b : Nat → Int32} {n k : Nat} (hB : cr_B b n k) (hC : cr_C 0 V b n k) (x y d : Int32) : ∃ r, f_X3_refusalOfRing 0 x y d V = some r ∧ (∀ W : cr_Hp, W 160 = b → f_X8_whyNotDrawn x y d W = some r) ∧ ((r < 0 ∧ ¬ r = 0 ∧ ¬ 0 ≤ r) ∨ (r = 0 ∧ k < 4 ∧ ∃ X Y D, X ≤ 30 ∧ Y ≤ 30 ∧ 1 ≤ D ∧ D ≤ 15 ∧ x = nI X ∧ y = nI Y ∧ d = nI D)) := by
  have hk := hB.2.1
  have v3 : V 0 3 = nI k := (hC.2.1 1 (by decide)).trans hB.2.2.2.1
  unfold f_X3_refusalOfRing f_X8_whyNotDrawn
  rw [cr_pt2a, cr_bd_some]
  by_cases hp : ¬ x < 0 ∧ ¬ (30 : Int32) < x ∧ ¬ y < 0 ∧ ¬ (30 : Int32) < y
  · by_cases h1 : d < 1
    · refine ⟨-1002, ?_, fun W hW => ?_, Or.inl (by decide)⟩
      · rw [if_pos hp, if_neg (by decide), if_pos h1]
      · rw [cr_pt2b, cr_bd_some, if_pos hp, if_neg (by decide), cr_within, if_neg (fun h => h.1 h1), cr_bd_some, if_pos (by decide)]
    · by_cases h3 : d ≤ 15
      · obtain ⟨X, Y, hX, hY, ex, ey⟩ := cr_pin2 hp
        obtain ⟨S, s1, s2, es⟩ := cr_one_to (n := 15) (M := 15) (by decide) h1 h3
        by_cases h12 : k = 4
        · refine ⟨-1004, ?_, fun W hW => ?_, Or.inl (by decide)⟩
          · rw [if_pos hp, if_neg (by decide), if_neg h1, if_pos h3, v3, h12, if_neg (by decide)]
          · rw [cr_pt2b, cr_bd_some, if_pos hp, if_neg (by decide), cr_within, if_pos ⟨h1, cr_nlt.mpr h3⟩, cr_bd_some, if_neg (by decide), cr_G1, cr_T1, hW, hB.2.2.2.1, h12, if_pos (by decide)]
        · refine ⟨0, ?_, fun W hW => ?_, Or.inr ⟨rfl, by omega, X, Y, S, hX, hY, s1, s2, ex, ey, es⟩⟩
          · rw [if_pos hp, if_neg (by decide), if_neg h1, if_pos h3, v3, cr_L4, if_pos (nI_lt (by omega) (by decide))]
          · rw [cr_pt2b, cr_bd_some, if_pos hp, if_neg (by decide), cr_within, if_pos ⟨h1, cr_nlt.mpr h3⟩, cr_bd_some, if_neg (by decide), cr_G1, cr_T1, hW, hB.2.2.2.1, if_neg (show ¬ nI k = (4 : Int32) from fun h => h12 ((nI_eq (by omega) (by decide)).mp (h.trans cr_L4)))]
      · refine ⟨-1002, ?_, fun W hW => ?_, Or.inl (by decide)⟩
        · rw [if_pos hp, if_neg (by decide), if_neg h1, if_neg h3]
        · rw [cr_pt2b, cr_bd_some, if_pos hp, if_neg (by decide), cr_within, if_neg (fun h => h3 (cr_nlt.mp h.2)), cr_bd_some, if_pos (by decide)]
  · refine ⟨-1001, ?_, fun W hW => ?_, Or.inl (by decide)⟩
    · rw [if_neg hp, if_pos (by decide)]
    · rw [cr_pt2b, cr_bd_some, if_neg hp, if_pos (by decide)]
theorem cr_m_draw {V : cr_Hp} (h : cr_I V) (x y d : Int32) : ∃ r V1 V2, f_X7_drawRing x y d V = some (r, V1) ∧ f_X8_drawRing x y d V1 = some (r, V2) ∧ cr_I V2 := by
  obtain ⟨b, n, k, m, H, L, T, hI, hM⟩ := h
  obtain ⟨r, h1, h2, h3⟩ := cr_whyD hI.1 hI.2.1 x y d
  unfold f_X7_drawRing f_X8_drawRing
  rw [h1, cr_bd_some]
  rcases h3 with ⟨r1, r2, r3⟩ | ⟨r0, hk, X, Y, D, hX, hY, s1, s2, rfl, rfl, rfl⟩
  · refine ⟨r, V, V, ?_, ?_, ⟨b, n, k, m, H, L, T, hI, hM⟩⟩
    · rw [if_neg r2]
    · rw [h2 V hM.1, cr_bd_some, if_neg r3]
  · subst r0
    obtain ⟨W, e, hW, hf⟩ := cr_save hI
    obtain ⟨W1, e1, hC1, hf1⟩ := cr_addR (x := nI X) (y := nI Y) (d := nI D) hW.1 hW.2.1 hk
    have hB1 := cr_B_dr hI.1 hk hX hY s1 s2
    have hM1 := cr_IM_fr hM (W := W1) (fun c hc => by rw [hf1 c (by omega), hf c (by omega)])
    obtain ⟨W2, e2, hM2, hf2⟩ := cr_record (cr_IM_m hI) hM1
    obtain ⟨W3, e3, h160, hf3⟩ := cr_mdr (x := nI X) (y := nI Y) (d := nI D) hI.1 hM2.1 hk
    refine ⟨nI k, W1, W3, ?_, ?_, ⟨_, _, _, _, _, _, _, cr_IC_fr (cr_IC_b hW hB1 hC1 (fun c c1 _ _ => hf1 c (by omega)) (fun j hj => by rw [hf1 _ (by omega)]; exact hW.2.2.1 19 (by omega) j hj)) (fun c hc => by rw [hf3 c (by omega), hf2 c (by omega) (by omega)]), cr_IM_b hM2 (fun c c1 _ _ _ => hf3 c c1) h160⟩⟩
    · rw [if_pos (by decide), e, cr_bd_some, e1, cr_b2_some]
    · rw [h2 W1 hM1.1, cr_bd_some, if_pos (by decide), e2, cr_bd_some, e3, cr_b2_some]
/-- sets of rings: bits below sixteen -/
theorem cr_orb : ∀ r : Fin 4, ∀ s : Fin 8, s.val < 2 ^ r.val → nI s.val ||| ((1 : Int32) <<< (nI r.val &&& 31)) = nI (s.val + 2 ^ r.val) := by decide +kernel
theorem sp_rs_lt {b : Nat → Int32} {x y : Int32} : ∀ k : Nat, k ≤ 4 → ∃ s, s < 2 ^ k ∧ sp_rs b x y k = nI s
  | 0, _ => ⟨0, by decide, rfl⟩
  | r + 1, h => by
    obtain ⟨s, h1, h2⟩ := sp_rs_lt r (by omega) (b := b) (x := x) (y := y)
    have h8 : s < 8 := Nat.lt_of_lt_of_le h1 (show 2 ^ r ≤ 2 ^ 3 from Nat.pow_le_pow_right (by decide) (by omega))
    by_cases hc : cr_out b r x y
    · refine ⟨s, by rw [Nat.pow_succ]; omega, ?_⟩
      simp only [sp_rs, if_pos hc]; exact h2
    · refine ⟨s + 2 ^ r, by rw [Nat.pow_succ]; omega, ?_⟩
      simp only [sp_rs, if_neg hc]
      rw [h2]
      exact cr_orb ⟨r, by omega⟩ ⟨s, h8⟩ h1
theorem sp_rs_16 {b : Nat → Int32} {x y : Int32} {k : Nat} (h : k ≤ 4) : ∃ s, s < 16 ∧ sp_rs b x y k = nI s := by
  obtain ⟨s, h1, h2⟩ := sp_rs_lt (b := b) (x := x) (y := y) k h
  exact ⟨s, Nat.lt_of_lt_of_le h1 (show 2 ^ k ≤ 2 ^ 4 from Nat.pow_le_pow_right (by decide) h), h2⟩
def sp_on (x : Int32) : Nat → Int32
  | 0 => 0
  | i + 1 => sp_on x i + ((x >>> (nI i &&& 31)) &&& (1 : Int32))
theorem cr_ones {x : Int32} : f_X8_ones x = some (sp_on x 4) := by
  unfold f_X8_ones
  refine Eq.trans (cr_bd_for (fun i => (sp_on x i, nI i)) 4 (r := sp_on x 4) ?_ ?_ (by decide) rfl) rfl
  · intro i hi
    show f_X8_ones_l4 x (sp_on x i) (nI i) = some (.inl (sp_on x (i + 1), nI (i + 1)))
    unfold f_X8_ones_l4
    rw [cr_L4, if_neg (nI_ge hi (by decide)), cr_1]; rfl
  · show f_X8_ones_l4 x (sp_on x 4) (nI 4) = _
    unfold f_X8_ones_l4
    rw [cr_L4, if_pos (nI_le (Nat.le_refl 4) (by decide))]
theorem cr_bits_x : ∀ s : Fin 16, ∀ t : Fin 16, f_J6_bitCount_0f7a4 (nI s.val ^^^ nI t.val) = some (sp_on (nI s.val ^^^ nI t.val) 4) ∧ (sp_on (nI s.val ^^^ nI t.val) 4 = 0 ∨ sp_on (nI s.val ^^^ nI t.val) 4 = 1 ∨ sp_on (nI s.val ^^^ nI t.val) 4 = 2 ∨ sp_on (nI s.val ^^^ nI t.val) 4 = 3 ∨ sp_on (nI s.val ^^^ nI t.val) 4 = 4) := by decide +kernel
theorem cr_bits_1 : ∀ s : Fin 16, f_J6_bitCount_0f7a4 (nI s.val) = some (sp_on (nI s.val) 4) := by decide +kernel
/-- move -/
def sp_mv (b : Nat → Int32) (j : Nat) (x y : Int32) : Nat → Int32 := upd (upd b (8 + 5 * j) x) (8 + 5 * j + 1) y
theorem sp_mv_o {b : Nat → Int32} {j t : Nat} {x y : Int32} (h2 : t ≠ 8 + 5 * j) (h3 : t ≠ 8 + 5 * j + 1) : sp_mv b j x y t = b t := by
  unfold sp_mv
  rw [cr_uv, if_neg h3, cr_uv, if_neg h2]
theorem sp_mv_x {b : Nat → Int32} {j : Nat} {x y : Int32} : sp_mv b j x y (8 + 5 * j) = x ∧ sp_mv b j x y (8 + 5 * j + 1) = y := by
  unfold sp_mv
  constructor
  · rw [cr_uv, if_neg (by omega), cr_uv, if_pos rfl]
  · rw [cr_uv, if_pos rfl]
theorem cr_B_mv {b : Nat → Int32} {n k X Y j : Nat} (hB : cr_B b n k) (hj : j < n) (hX : X ≤ 30) (hY : Y ≤ 30) (hon : ∀ i, i < n → ¬ cr_on_pt b i (nI X) (nI Y)) : cr_B (sp_mv b j (nI X) (nI Y)) n k := by
  obtain ⟨hn, hk, b0, b1, b2, bm, br, bd, bz⟩ := hB
  obtain ⟨p0, p1⟩ := @sp_mv_x b j (nI X) (nI Y)
  refine ⟨hn, hk, by rw [sp_mv_o (by omega) (by omega)]; exact b0, by rw [sp_mv_o (by omega) (by omega)]; exact b1, by rw [sp_mv_o (by omega) (by omega)]; exact b2, fun i hi => ?_, fun r hr => by rw [sp_mv_o (by omega) (by omega), sp_mv_o (by omega) (by omega), sp_mv_o (by omega) (by omega)]; exact br r hr, fun i i2 hi hi2 hij li lj => ?_, fun i hi => by rw [sp_mv_o (by omega) (by omega)]; exact bz i hi⟩
  · rw [sp_mv_o (t := 8 + 5 * i + 2) (by omega) (by omega), sp_mv_o (t := 8 + 5 * i + 3) (by omega) (by omega), sp_mv_o (t := 8 + 5 * i + 4) (by omega) (by omega)]
    obtain ⟨x, y, s, o, hx, hy, h1, h2, h3, ex, ey, es, eo, ew⟩ := bm i hi
    by_cases h : i = j
    · rw [h, p0, p1, ← h]
      exact ⟨X, Y, s, o, hX, hY, h1, h2, h3, rfl, rfl, es, eo, ew⟩
    · rw [sp_mv_o (by omega) (by omega), sp_mv_o (by omega) (by omega)]
      exact ⟨x, y, s, o, hx, hy, h1, h2, h3, ex, ey, es, eo, ew⟩
  · have li : cr_lie b i := (sp_mv_o (x := nI X) (y := nI Y) (j := j) (by omega) (by omega)).symm.trans li
    have lj : cr_lie b i2 := (sp_mv_o (x := nI X) (y := nI Y) (j := j) (by omega) (by omega)).symm.trans lj
    by_cases h : i = j
    · rw [h, p0, p1, sp_mv_o (by omega) (by omega), sp_mv_o (by omega) (by omega)]
      exact fun hh => hon i2 hi2 ⟨lj, hh.1.symm, hh.2.symm⟩
    · by_cases h2 : i2 = j
      · rw [h2, p0, p1, sp_mv_o (by omega) (by omega), sp_mv_o (by omega) (by omega)]
        exact fun hh => hon i hi ⟨li, hh.1, hh.2⟩
      · rw [sp_mv_o (by omega) (by omega), sp_mv_o (by omega) (by omega), sp_mv_o (by omega) (by omega), sp_mv_o (by omega) (by omega)]
        exact bd i i2 hi hi2 hij li lj
theorem cr_C_mv {a : Nat} {V : cr_Hp} {b : Nat → Int32} {n k j : Nat} {x y : Int32} (hn : n ≤ 12) (hC : cr_C a V b n k) (hj : j < n) : cr_C a (cr_pt (cr_pt V (a + 1 + 2 + j) 1 x) (a + 1 + 2 + j) 2 y) (sp_mv b j x y) n k := by
  obtain ⟨c1, c2, c3, c4, c5, c6, c7, c8⟩ := hC
  refine ⟨c1, fun c hc => ?_, fun i hi => ?_, fun i hi => ?_, fun i hi => ?_, fun i hi hi2 => ?_, fun r hr => ?_, fun r hr hr4 => ?_⟩
  · rw [cr_pt_ne (by omega), cr_pt_ne (by omega), sp_mv_o (by omega) (by omega)]; exact c2 c hc
  · rw [cr_pv, if_neg (by omega), cr_pv, if_neg (by omega)]; exact c3 i hi
  · obtain ⟨e1, e2, e3, e4⟩ := c4 i hi
    rw [sp_mv_o (t := 8 + 5 * i + 2) (by omega) (by omega), sp_mv_o (t := 8 + 5 * i + 3) (by omega) (by omega)]
    by_cases h : i = j
    · subst h
      rw [sp_mv_x.1, sp_mv_x.2]
      refine ⟨by rw [cr_pv, if_neg (by omega), cr_pv, if_pos (by omega)], by rw [cr_pv, if_pos (by omega)], by rw [cr_pv, if_neg (by omega), cr_pv, if_neg (by omega)]; exact e3, by rw [cr_pv, if_neg (by omega), cr_pv, if_neg (by omega)]; exact e4⟩
    · rw [sp_mv_o (by omega) (by omega), sp_mv_o (by omega) (by omega), cr_pt_ne (by omega), cr_pt_ne (by omega)]
      exact ⟨e1, e2, e3, e4⟩
  · rw [cr_lie, sp_mv_o (by omega) (by omega), cr_pv, if_neg (by omega), cr_pv, if_neg (by omega), cr_pv, if_neg (by omega), cr_pv, if_neg (by omega)]
    exact c5 i hi
  · rw [cr_pv, if_neg (by omega), cr_pv, if_neg (by omega), cr_pv, if_neg (by omega), cr_pv, if_neg (by omega)]
    exact c6 i hi hi2
  · rw [sp_mv_o (by omega) (by omega), sp_mv_o (by omega) (by omega), sp_mv_o (by omega) (by omega), cr_pt_ne (by omega), cr_pt_ne (by omega)]
    exact c7 r hr
  · rw [cr_pt_ne (by omega), cr_pt_ne (by omega)]
    exact c8 r hr hr4
theorem cr_mmv {V : cr_Hp} {b : Nat → Int32} {j : Nat} {x y : Int32} (hV : V 160 = b) : (cr_pt (cr_pt V 160 (8 + 5 * j) x) 160 (8 + 5 * j + 1) y) 160 = sp_mv b j x y := by
  rw [cr_pt_eq, cr_pt_eq, hV]; rfl
theorem cr_m_move {V : cr_Hp} (h : cr_I V) (a x y : Int32) : ∃ r V1 V2, f_X7_move a x y V = some (r, V1) ∧ f_X8_move a x y V1 = some (r, V2) ∧ cr_I V2 := by
  obtain ⟨b, n, k, m, H, L, T, hI, hM⟩ := h
  have same : cr_I V := ⟨b, n, k, m, H, L, T, hI, hM⟩
  have hB := hI.1
  have hC := hI.2.1
  have hn := hB.1
  have hk := hB.2.1
  unfold f_X7_move f_X8_move
  rcases cr_any_lt a (n := n) (by omega) with h | ⟨j, hj, rfl⟩
  · refine ⟨-1001, V, V, ?_, ?_, same⟩
    · rw [cr_find_n hB hC h, cr_bd_some, cr_on_0]
    · rw [cr_isM_n hB hM.1 h, cr_bd_some, if_pos (by decide)]
  · have hma := cr_ms_ma (cr_pg_ms hC.1) (show j < 12 by omega)
    rw [cr_find_s hB hC hj, cr_bd_some, cr_on_1, cr_gd_e hma, cr_pt2a, cr_bd_some]
    by_cases hp : ¬ x < 0 ∧ ¬ (30 : Int32) < x ∧ ¬ y < 0 ∧ ¬ (30 : Int32) < y
    · rcases hC.2.2.2.2.1 j hj with ⟨l, l6, -⟩ | ⟨l, l6, -⟩
      · rcases cr_on_em (b := b) (n := n) (x := x) (y := y) with ⟨i, hi, ho⟩ | ho
        · refine ⟨-1003, V, V, ?_, ?_, same⟩
          · rw [if_pos hp, if_neg (by decide), l6, if_neg (by decide), cr_marbleOn_s hB hC hi ho, cr_bd_some, cr_on_1, cr_gd_e (cr_ms_ma (cr_pg_ms hC.1) (by omega))]
          · rw [cr_isM_s hB hM.1 hj, cr_bd_some, if_neg (by decide), cr_pt2b, cr_bd_some, if_pos hp, if_neg (by decide), cr_mthere (by omega) hM.1 l, cr_bd_some, if_neg (by decide), cr_marbleAt_s hB hM.1 hi ho, cr_bd_some, if_neg (cr_ne_m1006 (by omega))]
        · obtain ⟨X, Y, hX, hY, rfl, rfl⟩ := cr_pin2 hp
          obtain ⟨W, e, hW, hf⟩ := cr_save hI
          have hC1 := cr_C_mv (x := nI X) (y := nI Y) hn hW.2.1 hj
          have hB1 := cr_B_mv hB hj hX hY ho
          obtain ⟨W1, ew1⟩ : ∃ W1, W1 = cr_pt (cr_pt W (0 + 1 + 2 + j) 1 (nI X)) (0 + 1 + 2 + j) 2 (nI Y) := ⟨_, rfl⟩
          rw [← ew1] at hC1
          have hf1 : ∀ c, 19 ≤ c → W1 c = W c := fun c hc => by rw [ew1, cr_pt_ne (by omega), cr_pt_ne (by omega)]
          obtain ⟨s, s1, s2⟩ := sp_rs_16 (b := sp_mv b j (nI X) (nI Y)) (x := nI X) (y := nI Y) hk
          have hM1 := cr_IM_fr hM (W := W1) (fun c hc => by rw [hf1 c (by omega), hf c (by omega)])
          obtain ⟨W2, e2, hM2, hf2⟩ := cr_record (cr_IM_m hI) hM1
          have h160 := cr_mmv (x := nI X) (y := nI Y) (j := j) hM2.1
          obtain ⟨W3, ew3⟩ : ∃ W3, W3 = cr_pt (cr_pt W2 160 (8 + 5 * j) (nI X)) 160 (8 + 5 * j + 1) (nI Y) := ⟨_, rfl⟩
          rw [← ew3] at h160
          have hf3 : ∀ c, c ≠ 160 → W3 c = W2 c := fun c hc => by rw [ew3, cr_pt_ne hc, cr_pt_ne hc]
          refine ⟨sp_on (nI s) 4, W1, W3, ?_, ?_, ⟨_, _, _, _, _, _, _, cr_IC_fr (cr_IC_b hW hB1 hC1 (fun c c1 _ _ => hf1 c (by omega)) (fun j hj => by rw [hf1 _ (by omega)]; exact hW.2.2.1 19 (by omega) j hj)) (fun c hc => by rw [hf3 c (by omega), hf2 c (by omega) (by omega)]), cr_IM_b hM2 (fun c c1 _ _ _ => hf3 c c1) h160⟩⟩
          · rw [if_pos hp, if_neg (by decide), l6, if_neg (by decide), cr_marbleOn_n hB hC ho, cr_bd_some, cr_on_0, e, cr_bd_some, cr_lt_e, cr_lt_e, ← ew1, cr_ringsAround hB1 hC1, cr_bd_some, s2, cr_bits_1 ⟨s, s1⟩, cr_bd_some]
          · rw [cr_isM_s hB hM1.1 hj, cr_bd_some, if_neg (by decide), cr_pt2b, cr_bd_some, if_pos hp, if_neg (by decide), cr_mthere (by omega) hM1.1 l, cr_bd_some, if_neg (by decide), cr_marbleAt_n hB hM1.1 ho, cr_bd_some, if_pos (by decide), e2, cr_bd_some, cr_ms0 (by omega), cr_bd_some, cr_ms1 (by omega), cr_bd_some, ← ew3, cr_mringsOf hB1 h160, cr_bd_some, s2, cr_ones, cr_bd_some]
      · refine ⟨-1003, V, V, ?_, ?_, same⟩
        · rw [if_pos hp, if_neg (by decide), l6, if_pos (by decide)]
        · rw [cr_isM_s hB hM.1 hj, cr_bd_some, if_neg (by decide), cr_pt2b, cr_bd_some, if_pos hp, if_neg (by decide), cr_mthere0 (by omega) hM.1 l, cr_bd_some, if_pos (by decide)]
    · refine ⟨-1001, V, V, ?_, ?_, same⟩
      · rw [if_neg hp, if_pos (by decide)]
      · rw [cr_isM_s hB hM.1 hj, cr_bd_some, if_neg (by decide), cr_pt2b, cr_bd_some, if_neg hp, if_pos (by decide)]
