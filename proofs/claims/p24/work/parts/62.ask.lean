/-! answers: each side's, by one function of the board -/
theorem cr_pt2a {x y : Int32} : f_X7_isPoint x y = some (if ¬ x < 0 ∧ ¬ (30 : Int32) < x ∧ ¬ y < 0 ∧ ¬ (30 : Int32) < y then 1 else 0) := by
  unfold f_X7_isPoint
  by_cases h1 : x < 0
  · simp [h1]
  · by_cases h2 : (30 : Int32) < x
    · simp [h1, h2]
    · by_cases h3 : y < 0
      · simp [h1, h2, h3]
      · by_cases h4 : (30 : Int32) < y
        · simp [h1, h2, h3, h4]
        · simp [h1, h2, h3, h4]
theorem cr_find_s {a j : Nat} {V : cr_Hp} {b : Nat → Int32} {n k : Nat} (hB : cr_B b n k) (hC : cr_C a V b n k) (hj : j < n) : f_X3_findMarble a (nI j) V = some (some (a + 1 + 2 + j)) := by
  have hn := hB.1
  have h0 : V a 2 = nI n := (hC.2.1 0 (by decide)).trans hB.2.2.1
  unfold f_X3_findMarble
  rw [if_neg (cr_nn (by omega)), h0, if_neg (nI_ge hj (by omega)), cr_L12, if_pos (nI_lt (show j < 12 by omega) (by decide)), cr_gd_e (cr_ix_nI (by omega) (by decide)), nI_clamp (by omega)]
theorem cr_find_n {a : Nat} {V : cr_Hp} {b : Nat → Int32} {n k : Nat} {x : Int32} (hB : cr_B b n k) (hC : cr_C a V b n k) (h : x < 0 ∨ nI n ≤ x) : f_X3_findMarble a x V = some none := by
  have h0 : V a 2 = nI n := (hC.2.1 0 (by decide)).trans hB.2.2.1
  unfold f_X3_findMarble
  by_cases h1 : x < 0
  · rw [if_pos h1]
  · rw [if_neg h1, h0, if_pos (h.resolve_left h1)]
theorem cr_findr_s {a j : Nat} {V : cr_Hp} {b : Nat → Int32} {n k : Nat} (hB : cr_B b n k) (hC : cr_C a V b n k) (hj : j < k) : f_X3_findRing a (nI j) V = some (some (a + 2 + 13 + j)) := by
  have hk := hB.2.1
  have h0 : V a 3 = nI k := (hC.2.1 1 (by decide)).trans hB.2.2.2.1
  unfold f_X3_findRing
  rw [if_neg (cr_nn (by omega)), h0, if_neg (nI_ge hj (by omega)), cr_L4, if_pos (nI_lt (show j < 4 by omega) (by decide)), cr_gd_e (cr_ix_nI (by omega) (by decide)), nI_clamp (by omega)]
theorem cr_findr_n {a : Nat} {V : cr_Hp} {b : Nat → Int32} {n k : Nat} {x : Int32} (hB : cr_B b n k) (hC : cr_C a V b n k) (h : x < 0 ∨ nI k ≤ x) : f_X3_findRing a x V = some none := by
  have h0 : V a 3 = nI k := (hC.2.1 1 (by decide)).trans hB.2.2.2.1
  unfold f_X3_findRing
  by_cases h1 : x < 0
  · rw [if_pos h1]
  · rw [if_neg h1, h0, if_pos (h.resolve_left h1)]
def sp_sc (b : Nat → Int32) (p : Int32) : Nat → Int32
  | 0 => 0
  | j + 1 => if b (8 + 5 * j + 4) = -1006 then sp_sc b p j else if b (8 + 5 * j + 4) = p then sp_sc b p j + b (8 + 5 * j + 2) else if b (8 + 5 * j + 3) = p then sp_sc b p j - b (8 + 5 * j + 2) else sp_sc b p j
theorem cr_m1_ne {v : Nat} (h : v < 100) : ¬ nI v = (-1 : Int32) := by
  intro e
  have := congrArg Int32.toInt e
  rw [nI_toInt (by omega)] at this
  have h2 : (-1 : Int32).toInt = -1 := by decide
  omega
theorem cr_won {b : Nat → Int32} {n k j : Nat} (hB : cr_B b n k) (hj : j < n) (h : ¬ cr_lie b j) : ∃ v, v < 3 ∧ b (8 + 5 * j + 4) = nI v := by
  obtain ⟨x, y, s, o, -, -, -, -, -, -, -, -, -, hw⟩ := hB.2.2.2.2.2.1 j hj
  exact hw.resolve_left h
theorem cr_points {a : Nat} {V : cr_Hp} {b : Nat → Int32} {n k : Nat} {p : Int32} (hB : cr_B b n k) (hC : cr_C a V b n k) : f_X3_pointsOf a p V = some (sp_sc b p n) := by
  have hn := hB.1
  unfold f_X3_pointsOf
  refine Eq.trans (cr_bd_for (fun i => (sp_sc b p (min i n), nI i)) 12 (r := sp_sc b p n) ?_ ?_ (by decide) rfl) rfl
  · intro j hj
    show f_X3_pointsOf_l14 a p (sp_sc b p (min j n)) (nI j) V = some (.inl (sp_sc b p (min (j + 1) n), nI (j + 1)))
    unfold f_X3_pointsOf_l14
    rw [cr_L12, if_neg (nI_ge hj (by decide)), cr_gd_e (cr_ix_nI hj (by decide)), nI_clamp (by omega), cr_1]
    by_cases h : j < n
    · rw [Nat.min_eq_left (by omega), Nat.min_eq_left (by omega)]
      obtain ⟨-, -, e3, e4⟩ := hC.2.2.2.1 j h
      rcases hC.2.2.2.2.1 j h with ⟨l, -, l5⟩ | ⟨l, -, l5⟩
      · rw [l5, if_pos rfl]
        simp only [sp_sc, if_pos l]
      · obtain ⟨v, hv, ev⟩ := cr_won hB h l
        rw [l5, if_neg (by rw [ev]; exact cr_m1_ne (by omega)), e3, e4]
        simp only [cr_lt_e, sp_sc, if_neg l]
        by_cases c1 : b (8 + 5 * j + 4) = p
        · rw [if_pos c1, if_pos c1]
        · rw [if_neg c1, if_neg c1]
          by_cases c2 : b (8 + 5 * j + 3) = p
          · rw [if_pos c2, if_pos c2]
          · rw [if_neg c2, if_neg c2]
    · rw [Nat.min_eq_right (by omega), Nat.min_eq_right (by omega), (hC.2.2.2.2.2.1 j (by omega) hj).2, if_pos rfl]
  · show f_X3_pointsOf_l14 a p (sp_sc b p (min 12 n)) (nI 12) V = _
    unfold f_X3_pointsOf_l14
    rw [cr_L12, if_pos (nI_le (Nat.le_refl 12) (by decide)), Nat.min_eq_right hn]
def sp_ld (b : Nat → Int32) (n : Nat) : Nat → Int32
  | 0 => 0
  | i + 1 => if sp_sc b (nI (i + 1)) n ≤ sp_sc b (sp_ld b n i) n then sp_ld b n i else nI (i + 1)
theorem cr_leader {V : cr_Hp} {b : Nat → Int32} {n k : Nat} (hB : cr_B b n k) (hC : cr_C 0 V b n k) : f_X7_leader V = some (sp_ld b n 2) := by
  unfold f_X7_leader
  refine Eq.trans (cr_bd_for (fun i => (sp_ld b n i, nI (i + 1))) 2 (r := sp_ld b n 2) ?_ ?_ (by omega) rfl) rfl
  · intro j hj
    show f_X7_leader_l4 (sp_ld b n j) (nI (j + 1)) V = some (.inl (sp_ld b n (j + 1), nI (j + 1 + 1)))
    unfold f_X7_leader_l4
    rw [cr_L3, if_neg (nI_ge (show j + 1 < 3 by omega) (by decide)), cr_points hB hC, cr_bd_some, cr_points hB hC, cr_bd_some, cr_1]
    simp only [sp_ld]
    by_cases h : sp_sc b (nI (j + 1)) n ≤ sp_sc b (sp_ld b n j) n
    · rw [if_pos h, if_pos h]
    · rw [if_neg h, if_neg h]
  · show f_X7_leader_l4 (sp_ld b n 2) (nI 3) V = _
    unfold f_X7_leader_l4
    rw [cr_L3, if_pos (nI_le (Nat.le_refl 3) (by decide))]
def sp_mi (b : Nat → Int32) (r : Nat) : Nat → Int32
  | 0 => 0
  | j + 1 => if b (8 + 5 * j + 4) = -1006 then (if cr_out b r (b (8 + 5 * j)) (b (8 + 5 * j + 1)) then sp_mi b r j else sp_mi b r j ||| ((1 : Int32) <<< (nI j &&& 31))) else sp_mi b r j
theorem cr_marblesIn {a r : Nat} {V : cr_Hp} {b : Nat → Int32} {n k : Nat} (hB : cr_B b n k) (hC : cr_C a V b n k) (hr : r < k) : f_X3_marblesIn a (a + 2 + 13 + r) V = some (sp_mi b r n) := by
  have hn := hB.1
  unfold f_X3_marblesIn
  refine Eq.trans (cr_bd_for (fun i => (sp_mi b r (min i n), nI i)) 12 (r := sp_mi b r n) ?_ ?_ (by decide) rfl) rfl
  · intro j hj
    show f_X3_marblesIn_l14 a (a + 2 + 13 + r) (sp_mi b r (min j n)) (nI j) V = some (.inl (sp_mi b r (min (j + 1) n), nI (j + 1)))
    unfold f_X3_marblesIn_l14
    rw [cr_L12, if_neg (nI_ge hj (by decide)), cr_gd_e (cr_ix_nI hj (by decide)), nI_clamp (by omega), cr_1]
    by_cases h : j < n
    · rw [Nat.min_eq_left (by omega), Nat.min_eq_left (by omega)]
      obtain ⟨e1, e2, -, -⟩ := hC.2.2.2.1 j h
      rcases hC.2.2.2.2.1 j h with ⟨l, l6, -⟩ | ⟨l, l6, -⟩
      · rw [l6, if_neg (by decide), e1, e2, cr_holds hB hC hr, cr_bd_some, hC.2.2.1 j hj]
        simp only [cr_lt_e, sp_mi, if_pos l]
        by_cases c1 : cr_out b r (b (8 + 5 * j)) (b (8 + 5 * j + 1))
        · rw [if_pos c1, if_pos rfl, if_pos c1]
        · rw [if_neg c1, if_neg (by decide), if_neg c1]
      · rw [l6, if_pos rfl]
        simp only [sp_mi, if_neg l]
    · rw [Nat.min_eq_right (by omega), Nat.min_eq_right (by omega), (hC.2.2.2.2.2.1 j (by omega) hj).1, if_pos rfl]
  · show f_X3_marblesIn_l14 a (a + 2 + 13 + r) (sp_mi b r (min 12 n)) (nI 12) V = _
    unfold f_X3_marblesIn_l14
    rw [cr_L12, if_pos (nI_le (Nat.le_refl 12) (by decide)), Nat.min_eq_right hn]
def sp_p1 (b : Nat → Int32) (r : Nat) (x s : Int32) : Nat → Int32
  | 0 => s
  | y + 1 => if cr_out b r x (nI y) then sp_p1 b r x s y else sp_p1 b r x s y + 1
def sp_p2 (b : Nat → Int32) (r : Nat) : Nat → Int32
  | 0 => 0
  | x + 1 => sp_p1 b r (nI x) (sp_p2 b r x) 31
theorem cr_n30 {y : Nat} (h : y < 31) : ¬ (30 : Int32) < nI y := by rw [cr_L30]; exact nI_nlt (by omega) (by decide)
theorem cr_p30 : (30 : Int32) < nI 31 := by decide
theorem cr_pointsIn {a r : Nat} {V : cr_Hp} {b : Nat → Int32} {n k : Nat} (hB : cr_B b n k) (hC : cr_C a V b n k) (hr : r < k) : f_X4_pointsInside (a + 2 + 13 + r) V = some (sp_p2 b r 31) := by
  unfold f_X4_pointsInside
  refine Eq.trans (cr_bd_for (fun i => (sp_p2 b r i, nI i)) 31 (r := sp_p2 b r 31) ?_ ?_ (by decide) rfl) rfl
  · intro x hx
    show f_X4_pointsInside_l4 (a + 2 + 13 + r) (sp_p2 b r x) (nI x) V = some (.inl (sp_p2 b r (x + 1), nI (x + 1)))
    unfold f_X4_pointsInside_l4
    rw [if_neg (cr_n30 hx)]
    refine Eq.trans (cr_bd_for (fun i => (sp_p1 b r (nI x) (sp_p2 b r x) i, nI i)) 31 (r := sp_p1 b r (nI x) (sp_p2 b r x) 31) ?_ ?_ (by decide) rfl) (by rw [cr_1]; rfl)
    · intro y hy
      show f_X4_pointsInside_l12 (a + 2 + 13 + r) (nI x) (sp_p1 b r (nI x) (sp_p2 b r x) y) (nI y) V = some (.inl (sp_p1 b r (nI x) (sp_p2 b r x) (y + 1), nI (y + 1)))
      unfold f_X4_pointsInside_l12
      rw [if_neg (cr_n30 hy), cr_holds hB hC hr, cr_bd_some, cr_1]
      simp only [sp_p1]
      by_cases c1 : cr_out b r (nI x) (nI y)
      · rw [if_pos c1, if_pos rfl, if_pos c1]
      · rw [if_neg c1, if_neg (by decide), if_neg c1]
    · show f_X4_pointsInside_l12 (a + 2 + 13 + r) (nI x) (sp_p1 b r (nI x) (sp_p2 b r x) 31) (nI 31) V = _
      unfold f_X4_pointsInside_l12
      rw [if_pos cr_p30]
  · show f_X4_pointsInside_l4 (a + 2 + 13 + r) (sp_p2 b r 31) (nI 31) V = _
    unfold f_X4_pointsInside_l4
    rw [if_pos cr_p30]
