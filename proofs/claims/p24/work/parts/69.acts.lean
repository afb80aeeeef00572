/-! drawRing, move, clear, pass, the text -/
def sp_dr (b : Nat → Int32) (k : Nat) (x y d : Int32) : Nat → Int32 := upd (upd (upd (upd b (68 + 3 * k) x) (68 + 3 * k + 1) y) (68 + 3 * k + 2) d) 1 (nI (k + 1))
theorem sp_dr_o {b : Nat → Int32} {k t : Nat} {x y d : Int32} (h : t ≠ 1) (h2 : t < 68 + 3 * k ∨ 68 + 3 * k + 3 ≤ t) : sp_dr b k x y d t = b t := by
  unfold sp_dr
  repeat rw [cr_uv]
  repeat rw [if_neg (by omega)]
theorem sp_dr_1 {b : Nat → Int32} {k : Nat} {x y d : Int32} : sp_dr b k x y d 1 = nI (k + 1) := by
  unfold sp_dr
  rw [cr_uv, if_pos rfl]
theorem sp_dr_n {b : Nat → Int32} {k : Nat} {x y d : Int32} : sp_dr b k x y d (68 + 3 * k) = x ∧ sp_dr b k x y d (68 + 3 * k + 1) = y ∧ sp_dr b k x y d (68 + 3 * k + 2) = d := by
  unfold sp_dr
  refine ⟨?_, ?_, ?_⟩
  all_goals
    repeat rw [cr_uv]
    repeat rw [if_neg (by omega)]
    rw [if_pos (by omega)]
theorem cr_B_dr {b : Nat → Int32} {n k X Y D : Nat} (hB : cr_B b n k) (hk4 : k < 4) (hX : X ≤ 30) (hY : Y ≤ 30) (hD1 : 1 ≤ D) (hD : D ≤ 15) : cr_B (sp_dr b k (nI X) (nI Y) (nI D)) n (k + 1) := by
  obtain ⟨hn, hk, b0, b1, b2, bm, br, bd, bz⟩ := hB
  obtain ⟨p0, p1, p2⟩ := @sp_dr_n b k (nI X) (nI Y) (nI D)
  have old : ∀ j, j < n → ∀ c, c < 5 → sp_dr b k (nI X) (nI Y) (nI D) (8 + 5 * j + c) = b (8 + 5 * j + c) := fun j hj c hc => sp_dr_o (by omega) (by omega)
  have old0 : ∀ j, j < n → sp_dr b k (nI X) (nI Y) (nI D) (8 + 5 * j) = b (8 + 5 * j) := fun j hj => old j hj 0 (by omega)
  refine ⟨hn, by omega, by rw [sp_dr_o (by omega) (by omega)]; exact b0, sp_dr_1, by rw [sp_dr_o (by omega) (by omega)]; exact b2, fun j hj => ?_, fun r hr => ?_, fun i j hi hj hij li lj => ?_, fun i hi => by rw [sp_dr_o (by omega) (by omega)]; exact bz i hi⟩
  · rw [old0 j hj, old j hj 1 (by omega), old j hj 2 (by omega), old j hj 3 (by omega), old j hj 4 (by omega)]
    exact bm j hj
  · rcases Nat.lt_or_ge r k with h | h
    · rw [sp_dr_o (by omega) (by omega), sp_dr_o (by omega) (by omega), sp_dr_o (by omega) (by omega)]
      exact br r h
    · rw [show r = k by omega, p0, p1, p2]
      exact ⟨X, Y, D, hX, hY, hD1, hD, rfl, rfl, rfl⟩
  · have li : cr_lie b i := (old i hi 4 (by omega)).symm.trans li
    have lj : cr_lie b j := (old j hj 4 (by omega)).symm.trans lj
    rw [old0 i hi, old0 j hj, old i hi 1 (by omega), old j hj 1 (by omega)]
    exact bd i j hi hj hij li lj
theorem cr_addR {V : cr_Hp} {b : Nat → Int32} {n k : Nat} {x y d : Int32} (hB : cr_B b n k) (hC : cr_C 0 V b n k) (hk4 : k < 4) : ∃ W, f_X3_addRing 0 x y d V = some (nI k, W) ∧ cr_C 0 W (sp_dr b k x y d) n (k + 1) ∧ ∀ c, 19 ≤ c → W c = V c := by
  have v3 : V 0 3 = nI k := (hC.2.1 1 (by decide)).trans hB.2.2.2.1
  have hn := hB.1
  obtain ⟨p0, p1, p2⟩ := @sp_dr_n b k x y d
  unfold f_X3_addRing
  rw [v3, if_neg (cr_nn (by omega)), cr_L4, if_pos (nI_lt hk4 (by decide)), cr_gd_e (cr_ix_nI hk4 (by decide)), nI_clamp (by omega)]
  simp only [cr_lt_e]
  obtain ⟨c1, c2, c3, c4, c5, c6, c7, c8⟩ := hC
  refine ⟨_, congrArg some (Prod.ext ?_ rfl), ⟨by omega, fun c hc => ?_, fun j hj => ?_, fun j hj => ?_, fun j hj => ?_, fun j hj hj2 => ?_, fun r hr => ?_, fun r hr hr4 => ?_⟩, fun c hc => ?_⟩
  · show cr_pt _ _ _ _ _ _ - _ = _
    repeat rw [cr_pv]
    rw [if_pos (by omega)]
    repeat rw [if_neg (by omega)]
    rw [v3, cr_1, cr_L1, pk_sub (by omega)]; rfl
  · repeat rw [cr_pv]
    by_cases h0 : c = 1
    · subst h0
      rw [if_pos ⟨rfl, rfl⟩, sp_dr_1]
      repeat rw [if_neg (by omega)]
      rw [v3, cr_1]
    · repeat rw [if_neg (by omega)]
      rw [c2 c hc, sp_dr_o h0 (by omega)]
  · simp only [cr_pt_ne (show 0 + 1 + 2 + j ≠ 0 + 2 + 13 + k by omega), cr_pt_ne (show 0 + 1 + 2 + j ≠ 0 by omega)]
    exact c3 j hj
  · rw [sp_dr_o (by omega) (by omega), sp_dr_o (by omega) (by omega), sp_dr_o (by omega) (by omega), sp_dr_o (by omega) (by omega)]
    simp only [cr_pt_ne (show 0 + 1 + 2 + j ≠ 0 + 2 + 13 + k by omega), cr_pt_ne (show 0 + 1 + 2 + j ≠ 0 by omega)]
    exact c4 j hj
  · rw [cr_lie, sp_dr_o (by omega) (by omega)]
    simp only [cr_pt_ne (show 0 + 1 + 2 + j ≠ 0 + 2 + 13 + k by omega), cr_pt_ne (show 0 + 1 + 2 + j ≠ 0 by omega)]
    exact c5 j hj
  · simp only [cr_pt_ne (show 0 + 1 + 2 + j ≠ 0 + 2 + 13 + k by omega), cr_pt_ne (show 0 + 1 + 2 + j ≠ 0 by omega)]
    exact c6 j hj hj2
  · rcases Nat.lt_or_ge r k with h | h
    · rw [sp_dr_o (by omega) (by omega), sp_dr_o (by omega) (by omega), sp_dr_o (by omega) (by omega)]
      simp only [cr_pt_ne (show 0 + 2 + 13 + r ≠ 0 + 2 + 13 + k by omega), cr_pt_ne (show 0 + 2 + 13 + r ≠ 0 by omega)]
      exact c7 r h
    · rw [show r = k by omega, p0, p1, p2]
      refine ⟨?_, ?_, ?_⟩
      all_goals
        repeat rw [cr_pv]
        repeat rw [if_neg (by omega)]
        rw [if_pos (by omega)]
  · simp only [cr_pt_ne (show 0 + 2 + 13 + r ≠ 0 + 2 + 13 + k by omega), cr_pt_ne (show 0 + 2 + 13 + r ≠ 0 by omega)]
    exact c8 r (by omega) hr4
  · simp only [cr_pt_ne (show c ≠ 0 + 2 + 13 + k by omega), cr_pt_ne (show c ≠ 0 by omega)]
/-- sets of rings: bits below sixteen -/
theorem cr_orb : ∀ r : Fin 4, ∀ s : Fin 8, s.val < 2 ^ r.val → nI s.val ||| ((1 : Int32) <<< (nI r.val &&& 31)) = nI (s.val + 2 ^ r.val) := by decide +kernel
theorem sp_rs_lt {b : Nat → Int32} {x y : Int32} : ∀ k : Nat, k ≤ 4 → ∃ s, s < 2 ^ k ∧ sp_rs b x y k = nI s
  | 0, _ => ⟨0, by decide, rfl⟩
  | r + 1, h => by
    obtain ⟨s, h1, h2⟩ := sp_rs_lt r (by omega) (b := b) (x := x) (y := y)
    have h8 : s < 8 := Nat.lt_of_lt_of_le h1 (show 2 ^ r ≤ 2 ^ 3 from Nat.pow_le_pow_right (by decide) (by omega))
    by_cases hc : cr_out b r x y
    · refine ⟨s, by rw [Nat.pow_succ]; omega, ?_⟩
      simp only [sp_rs, if_pos hc]; exact h2
    · refine ⟨s + 2 ^ r, by rw [Nat.pow_succ]; omega, ?_⟩
      simp only [sp_rs, if_neg hc]
      rw [h2]
      exact cr_orb ⟨r, by omega⟩ ⟨s, h8⟩ h1
theorem sp_rs_16 {b : Nat → Int32} {x y : Int32} {k : Nat} (h : k ≤ 4) : ∃ s, s < 16 ∧ sp_rs b x y k = nI s := by
  obtain ⟨s, h1, h2⟩ := sp_rs_lt (b := b) (x := x) (y := y) k h
  exact ⟨s, Nat.lt_of_lt_of_le h1 (show 2 ^ k ≤ 2 ^ 4 from Nat.pow_le_pow_right (by decide) h), h2⟩
def sp_on (x : Int32) : Nat → Int32
  | 0 => 0
  | i + 1 => sp_on x i + ((x >>> (nI i &&& 31)) &&& (1 : Int32))
theorem cr_bits_x : ∀ s : Fin 16, ∀ t : Fin 16, f_J6_bitCount_0f7a4 (nI s.val ^^^ nI t.val) = some (sp_on (nI s.val ^^^ nI t.val) 4) ∧ (sp_on (nI s.val ^^^ nI t.val) 4 = 0 ∨ sp_on (nI s.val ^^^ nI t.val) 4 = 1 ∨ sp_on (nI s.val ^^^ nI t.val) 4 = 2 ∨ sp_on (nI s.val ^^^ nI t.val) 4 = 3 ∨ sp_on (nI s.val ^^^ nI t.val) 4 = 4) := by decide +kernel
theorem cr_bits_1 : ∀ s : Fin 16, f_J6_bitCount_0f7a4 (nI s.val) = some (sp_on (nI s.val) 4) := by decide +kernel
/-- move -/
def sp_mv (b : Nat → Int32) (j : Nat) (x y : Int32) : Nat → Int32 := upd (upd b (8 + 5 * j) x) (8 + 5 * j + 1) y
theorem sp_mv_o {b : Nat → Int32} {j t : Nat} {x y : Int32} (h2 : t ≠ 8 + 5 * j) (h3 : t ≠ 8 + 5 * j + 1) : sp_mv b j x y t = b t := by
  unfold sp_mv
  rw [cr_uv, if_neg h3, cr_uv, if_neg h2]
theorem sp_mv_x {b : Nat → Int32} {j : Nat} {x y : Int32} : sp_mv b j x y (8 + 5 * j) = x ∧ sp_mv b j x y (8 + 5 * j + 1) = y := by
  unfold sp_mv
  constructor
  · rw [cr_uv, if_neg (by omega), cr_uv, if_pos rfl]
  · rw [cr_uv, if_pos rfl]
theorem cr_B_mv {b : Nat → Int32} {n k X Y j : Nat} (hB : cr_B b n k) (hj : j < n) (hX : X ≤ 30) (hY : Y ≤ 30) (hon : ∀ i, i < n → ¬ cr_on_pt b i (nI X) (nI Y)) : cr_B (sp_mv b j (nI X) (nI Y)) n k := by
  obtain ⟨hn, hk, b0, b1, b2, bm, br, bd, bz⟩ := hB
  obtain ⟨p0, p1⟩ := @sp_mv_x b j (nI X) (nI Y)
  refine ⟨hn, hk, by rw [sp_mv_o (by omega) (by omega)]; exact b0, by rw [sp_mv_o (by omega) (by omega)]; exact b1, by rw [sp_mv_o (by omega) (by omega)]; exact b2, fun i hi => ?_, fun r hr => by rw [sp_mv_o (by omega) (by omega), sp_mv_o (by omega) (by omega), sp_mv_o (by omega) (by omega)]; exact br r hr, fun i i2 hi hi2 hij li lj => ?_, fun i hi => by rw [sp_mv_o (by omega) (by omega)]; exact bz i hi⟩
  · rw [sp_mv_o (t := 8 + 5 * i + 2) (by omega) (by omega), sp_mv_o (t := 8 + 5 * i + 3) (by omega) (by omega), sp_mv_o (t := 8 + 5 * i + 4) (by omega) (by omega)]
    obtain ⟨x, y, s, o, hx, hy, h1, h2, h3, ex, ey, es, eo, ew⟩ := bm i hi
    by_cases h : i = j
    · rw [h, p0, p1, ← h]
      exact ⟨X, Y, s, o, hX, hY, h1, h2, h3, rfl, rfl, es, eo, ew⟩
    · rw [sp_mv_o (by omega) (by omega), sp_mv_o (by omega) (by omega)]
      exact ⟨x, y, s, o, hx, hy, h1, h2, h3, ex, ey, es, eo, ew⟩
  · have li : cr_lie b i := (sp_mv_o (x := nI X) (y := nI Y) (j := j) (by omega) (by omega)).symm.trans li
    have lj : cr_lie b i2 := (sp_mv_o (x := nI X) (y := nI Y) (j := j) (by omega) (by omega)).symm.trans lj
    by_cases h : i = j
    · rw [h, p0, p1, sp_mv_o (by omega) (by omega), sp_mv_o (by omega) (by omega)]
      exact fun hh => hon i2 hi2 ⟨lj, hh.1.symm, hh.2.symm⟩
    · by_cases h2 : i2 = j
      · rw [h2, p0, p1, sp_mv_o (by omega) (by omega), sp_mv_o (by omega) (by omega)]
        exact fun hh => hon i hi ⟨li, hh.1, hh.2⟩
      · rw [sp_mv_o (by omega) (by omega), sp_mv_o (by omega) (by omega), sp_mv_o (by omega) (by omega), sp_mv_o (by omega) (by omega)]
        exact bd i i2 hi hi2 hij li lj
theorem cr_C_mv {a : Nat} {V : cr_Hp} {b : Nat → Int32} {n k j : Nat} {x y : Int32} (hn : n ≤ 12) (hC : cr_C a V b n k) (hj : j < n) : cr_C a (cr_pt (cr_pt V (a + 1 + 2 + j) 1 x) (a + 1 + 2 + j) 2 y) (sp_mv b j x y) n k := by
  obtain ⟨c1, c2, c3, c4, c5, c6, c7, c8⟩ := hC
  refine ⟨c1, fun c hc => ?_, fun i hi => ?_, fun i hi => ?_, fun i hi => ?_, fun i hi hi2 => ?_, fun r hr => ?_, fun r hr hr4 => ?_⟩
  · rw [cr_pt_ne (by omega), cr_pt_ne (by omega), sp_mv_o (by omega) (by omega)]; exact c2 c hc
  · rw [cr_pv, if_neg (by omega), cr_pv, if_neg (by omega)]; exact c3 i hi
  · obtain ⟨e1, e2, e3, e4⟩ := c4 i hi
    rw [sp_mv_o (t := 8 + 5 * i + 2) (by omega) (by omega), sp_mv_o (t := 8 + 5 * i + 3) (by omega) (by omega)]
    by_cases h : i = j
    · subst h
      rw [sp_mv_x.1, sp_mv_x.2]
      refine ⟨by rw [cr_pv, if_neg (by omega), cr_pv, if_pos (by omega)], by rw [cr_pv, if_pos (by omega)], by rw [cr_pv, if_neg (by omega), cr_pv, if_neg (by omega)]; exact e3, by rw [cr_pv, if_neg (by omega), cr_pv, if_neg (by omega)]; exact e4⟩
    · rw [sp_mv_o (by omega) (by omega), sp_mv_o (by omega) (by omega), cr_pt_ne (by omega), cr_pt_ne (by omega)]
      exact ⟨e1, e2, e3, e4⟩
  · rw [cr_lie, sp_mv_o (by omega) (by omega), cr_pv, if_neg (by omega), cr_pv, if_neg (by omega), cr_pv, if_neg (by omega), cr_pv, if_neg (by omega)]
    exact c5 i hi
  · rw [cr_pv, if_neg (by omega), cr_pv, if_neg (by omega), cr_pv, if_neg (by omega), cr_pv, if_neg (by omega)]
    exact c6 i hi hi2
  · rw [sp_mv_o (by omega) (by omega), sp_mv_o (by omega) (by omega), sp_mv_o (by omega) (by omega), cr_pt_ne (by omega), cr_pt_ne (by omega)]
    exact c7 r hr
  · rw [cr_pt_ne (by omega), cr_pt_ne (by omega)]
    exact c8 r hr hr4
theorem cr_mmv {V : cr_Hp} {b : Nat → Int32} {j : Nat} {x y : Int32} (hV : V 160 = b) : (cr_pt (cr_pt V 160 (8 + 5 * j) x) 160 (8 + 5 * j + 1) y) 160 = sp_mv b j x y := by
  rw [cr_pt_eq, cr_pt_eq, hV]; rfl
