/-! boards: 80 numbers; what the model's array and the class's objects say of one -/
abbrev cr_lie (b : Nat → Int32) (j : Nat) : Prop := b (8 + 5 * j + 4) = -1006
def cr_B (b : Nat → Int32) (n k : Nat) : Prop :=
  n ≤ 12 ∧ k ≤ 4 ∧ b 0 = nI n ∧ b 1 = nI k ∧ (∃ q, q < 3 ∧ b 2 = nI q) ∧
  (∀ j, j < n → ∃ x y s o : Nat, x ≤ 30 ∧ y ≤ 30 ∧ 1 ≤ s ∧ s ≤ 3 ∧ o < 3 ∧ b (8 + 5 * j) = nI x ∧ b (8 + 5 * j + 1) = nI y ∧ b (8 + 5 * j + 2) = nI s ∧ b (8 + 5 * j + 3) = nI o ∧ (b (8 + 5 * j + 4) = -1006 ∨ ∃ v, v < 3 ∧ b (8 + 5 * j + 4) = nI v)) ∧
  (∀ r, r < k → ∃ x y d : Nat, x ≤ 30 ∧ y ≤ 30 ∧ 1 ≤ d ∧ d ≤ 15 ∧ b (68 + 3 * r) = nI x ∧ b (68 + 3 * r + 1) = nI y ∧ b (68 + 3 * r + 2) = nI d) ∧
  (∀ i j, i < n → j < n → i ≠ j → cr_lie b i → cr_lie b j → ¬ (b (8 + 5 * i) = b (8 + 5 * j) ∧ b (8 + 5 * i + 1) = b (8 + 5 * j + 1))) ∧
  (∀ i, 80 ≤ i → b i = 0)
def cr_C (a : Nat) (V : cr_Hp) (b : Nat → Int32) (n k : Nat) : Prop :=
  cr_pg a ∧ (∀ c, c < 8 → V a (c + 2) = b c) ∧ (∀ j, j < 12 → V (a + 1 + 2 + j) 0 = nI j) ∧
  (∀ j, j < n → V (a + 1 + 2 + j) 1 = b (8 + 5 * j) ∧ V (a + 1 + 2 + j) 2 = b (8 + 5 * j + 1) ∧ V (a + 1 + 2 + j) 3 = b (8 + 5 * j + 2) ∧ V (a + 1 + 2 + j) 4 = b (8 + 5 * j + 3)) ∧
  (∀ j, j < n → (cr_lie b j ∧ V (a + 1 + 2 + j) 6 = 1 ∧ V (a + 1 + 2 + j) 5 = -1) ∨ (¬ cr_lie b j ∧ V (a + 1 + 2 + j) 6 = 0 ∧ V (a + 1 + 2 + j) 5 = b (8 + 5 * j + 4))) ∧
  (∀ j, n ≤ j → j < 12 → V (a + 1 + 2 + j) 6 = 0 ∧ V (a + 1 + 2 + j) 5 = -1) ∧
  (∀ r, r < k → V (a + 2 + 13 + r) 0 = b (68 + 3 * r) ∧ V (a + 2 + 13 + r) 1 = b (68 + 3 * r + 1) ∧ V (a + 2 + 13 + r) 2 = b (68 + 3 * r + 2)) ∧
  (∀ r, k ≤ r → r < 4 → V (a + 2 + 13 + r) 2 = 0)
abbrev cr_out (b : Nat → Int32) (r : Nat) (x y : Int32) : Prop := (b (68 + 3 * r + 2) * b (68 + 3 * r + 2)) < (((x - b (68 + 3 * r)) * (x - b (68 + 3 * r))) + ((y - b (68 + 3 * r + 1)) * (y - b (68 + 3 * r + 1))))
def sp_rs (b : Nat → Int32) (x y : Int32) : Nat → Int32
  | 0 => 0
  | r + 1 => if cr_out b r x y then sp_rs b x y r else sp_rs b x y r ||| ((1 : Int32) <<< (nI r &&& 31))
theorem cr_or0 (x : Int32) : x ||| (0 : Int32) = x := by simp
theorem cr_sub_pos {a : Nat} (h : 1 ≤ a) (h2 : a < 2 ^ 31) : ¬ nI a ≤ 0 := nI_nle (by omega) h2
/-- the class's rings around a point -/
theorem cr_holds {a : Nat} {V : cr_Hp} {b : Nat → Int32} {n k r : Nat} {x y : Int32} (hB : cr_B b n k) (hC : cr_C a V b n k) (hr : r < k) : f_X4_holds (a + 2 + 13 + r) x y V = some (if cr_out b r x y then 0 else 1) := by
  obtain ⟨h0, h1, h2⟩ := hC.2.2.2.2.2.2.1 r hr
  obtain ⟨px, py, d, -, -, d1, d2, -, -, e3⟩ := hB.2.2.2.2.2.2.1 r hr
  unfold f_X4_holds
  simp only [cr_lt_e, h0, h1, h2]
  rw [if_neg (by rw [e3]; exact cr_sub_pos d1 (by omega))]
  by_cases hc : cr_out b r x y
  · rw [if_pos hc, if_pos hc]
  · rw [if_neg hc, if_neg hc]
theorem cr_holds0 {a : Nat} {V : cr_Hp} {b : Nat → Int32} {n k r : Nat} {x y : Int32} (hC : cr_C a V b n k) (hr : k ≤ r) (hr4 : r < 4) : f_X4_holds (a + 2 + 13 + r) x y V = some 0 := by
  have h2 := hC.2.2.2.2.2.2.2 r hr hr4
  unfold f_X4_holds
  simp only [cr_lt_e, h2]
  rw [if_pos (by decide)]
theorem cr_ringsAround {a : Nat} {V : cr_Hp} {b : Nat → Int32} {n k : Nat} {x y : Int32} (hB : cr_B b n k) (hC : cr_C a V b n k) : f_X3_ringsAround a x y V = some (sp_rs b x y k) := by
  unfold f_X3_ringsAround
  have hk : k ≤ 4 := hB.2.1
  refine Eq.trans (cr_bd_for (fun i => (sp_rs b x y (min i k), nI i)) 4 (r := sp_rs b x y k) ?_ ?_ (by decide) rfl) rfl
  · intro r hr
    show f_X3_ringsAround_l5 a x y (sp_rs b x y (min r k)) (nI r) V = _
    unfold f_X3_ringsAround_l5
    rw [cr_L4, if_neg (nI_ge hr (by decide)), cr_gd_e (cr_ix_nI hr (by decide)), nI_clamp (by omega)]
    by_cases h : r < k
    · rw [cr_holds hB hC h, cr_bd_some, Nat.min_eq_left (by omega), Nat.min_eq_left (by omega)]
      by_cases hc : cr_out b r x y
      · rw [if_pos hc, if_pos rfl, cr_1]
        simp only [sp_rs, if_pos hc]
      · rw [if_neg hc, if_neg (by decide), cr_1]
        simp only [sp_rs, if_neg hc]
    · rw [cr_holds0 hC (by omega) hr, cr_bd_some, if_pos rfl, cr_1, Nat.min_eq_right (by omega), Nat.min_eq_right (by omega)]
  · show f_X3_ringsAround_l5 a x y (sp_rs b x y (min 4 k)) (nI 4) V = _
    unfold f_X3_ringsAround_l5
    rw [cr_L4, if_pos (nI_le (Nat.le_refl 4) (by decide)), Nat.min_eq_right hk]
/-- the model's parts -/
theorem cr_ix5 {j c : Nat} : ((8 : Int32) + ((5 : Int32) * nI j)) + nI c = nI (8 + 5 * j + c) := by
  rw [cr_L8, cr_L5, pk_mul, nI_add, nI_add]
theorem cr_ix3 {r c : Nat} : ((68 : Int32) + ((3 : Int32) * nI r)) + nI c = nI (68 + 3 * r + c) := by
  rw [cr_L68, cr_L3, pk_mul, nI_add, nI_add]
/-- which marble lies on a point -/
def cr_on_pt (b : Nat → Int32) (j : Nat) (x y : Int32) : Prop := cr_lie b j ∧ b (8 + 5 * j) = x ∧ b (8 + 5 * j + 1) = y
theorem cr_pt_one {b : Nat → Int32} {n k i j : Nat} {x y : Int32} (hB : cr_B b n k) (hi : i < n) (hj : j < n) (h1 : cr_on_pt b i x y) (h2 : cr_on_pt b j x y) : i = j := by
  by_cases h : i = j
  · exact h
  · exact absurd ⟨h1.2.1.trans h2.2.1.symm, h1.2.2.trans h2.2.2.symm⟩ (hB.2.2.2.2.2.2.2.1 i j hi hj h h1.1 h2.1)
theorem cr_on_step {a j : Nat} {V : cr_Hp} {b : Nat → Int32} {n k : Nat} {x y : Int32} (hC : cr_C a V b n k) (hj : j < 12) (h : ¬ (j < n ∧ cr_on_pt b j x y)) : f_X3_marbleOn_l12 a x y (nI j) V = some (.inl (nI (j + 1))) := by
  unfold f_X3_marbleOn_l12
  rw [cr_L12, if_neg (nI_ge hj (by decide)), cr_gd_e (cr_ix_nI hj (by decide)), nI_clamp (by omega), cr_1]
  by_cases hn : j < n
  · obtain ⟨e1, e2, -, -⟩ := hC.2.2.2.1 j hn
    rcases hC.2.2.2.2.1 j hn with ⟨l, l6, -⟩ | ⟨l, l6, -⟩
    · rw [l6, e1, e2, if_neg (by decide)]
      by_cases hx : b (8 + 5 * j) = x
      · rw [if_pos hx]
        by_cases hy : b (8 + 5 * j + 1) = y
        · exact absurd ⟨hn, l, hx, hy⟩ h
        · rw [if_neg hy]
      · rw [if_neg hx]
    · rw [l6, if_pos rfl]
  · rw [(hC.2.2.2.2.2.1 j (by omega) hj).1, if_pos rfl]
theorem cr_marbleOn_s {a i : Nat} {V : cr_Hp} {b : Nat → Int32} {n k : Nat} {x y : Int32} (hB : cr_B b n k) (hC : cr_C a V b n k) (hi : i < n) (h : cr_on_pt b i x y) : f_X3_marbleOn a x y V = some (some (a + 1 + 2 + i)) := by
  have hn : n ≤ 12 := hB.1
  unfold f_X3_marbleOn
  refine Eq.trans (cr_bd_for (fun i => nI i) i (r := .inl (a + 1 + 2 + i)) ?_ ?_ (by omega) rfl) ?_
  · intro j hj
    exact cr_on_step hC (by omega) (fun hh => by have := cr_pt_one hB hh.1 hi hh.2 h; omega)
  · unfold f_X3_marbleOn_l12
    obtain ⟨e1, e2, -, -⟩ := hC.2.2.2.1 i hi
    rw [cr_L12, if_neg (nI_ge (show i < 12 by omega) (by decide)), cr_gd_e (cr_ix_nI (by omega) (by decide)), nI_clamp (by omega)]
    rcases hC.2.2.2.2.1 i hi with ⟨l, l6, -⟩ | ⟨l, l6, -⟩
    · rw [l6, e1, e2, if_neg (by decide), if_pos h.2.1, if_pos h.2.2]
    · exact absurd h.1 l
  · show cr_gd (cr_ma (a + 1 + 2 + i)) (some (some (a + 1 + 2 + i))) = _
    exact cr_gd_e (cr_ms_ma (cr_pg_ms hC.1) (show i < 12 by omega))
theorem cr_marbleOn_n {a : Nat} {V : cr_Hp} {b : Nat → Int32} {n k : Nat} {x y : Int32} (hB : cr_B b n k) (hC : cr_C a V b n k) (h : ∀ i, i < n → ¬ cr_on_pt b i x y) : f_X3_marbleOn a x y V = some none := by
  unfold f_X3_marbleOn
  refine Eq.trans (cr_bd_for (fun i => nI i) 12 (r := .inr ()) ?_ ?_ (by omega) rfl) rfl
  · intro j hj
    exact cr_on_step hC hj (fun hh => h j hh.1 hh.2)
  · unfold f_X3_marbleOn_l12
    rw [cr_L12, if_pos (nI_le (Nat.le_refl 12) (by decide))]
def sp_ma (i : Nat) (j : Nat) : Int32 := if i < j then nI i else -1006
theorem cr_on_em {b : Nat → Int32} {n : Nat} {x y : Int32} : (∃ i, i < n ∧ cr_on_pt b i x y) ∨ ∀ i, i < n → ¬ cr_on_pt b i x y := by
  by_cases h : ∃ i, i < n ∧ cr_on_pt b i x y
  · exact Or.inl h
  · exact Or.inr (fun i hi hh => h ⟨i, hi, hh⟩)
theorem cr_ne_m1006 {i : Nat} (h : i < 100) : ¬ nI i = (-1006 : Int32) := by
  intro e
  have := congrArg Int32.toInt e
  rw [nI_toInt (by omega)] at this
  have h2 : (-1006 : Int32).toInt = -1006 := by decide
  omega
