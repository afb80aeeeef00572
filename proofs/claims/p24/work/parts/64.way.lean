/-! the way out -/
theorem cr_least {P : Nat → Prop} : ∀ n : Nat, (∃ d, d < n ∧ P d ∧ ∀ e, e < d → ¬ P e) ∨ ∀ d, d < n → ¬ P d
  | 0 => Or.inr (fun d h => absurd h (by omega))
  | n + 1 => by
    rcases cr_least (P := P) n with ⟨d, h1, h2, h3⟩ | h
    · exact Or.inl ⟨d, by omega, h2, h3⟩
    · by_cases hp : P n
      · exact Or.inl ⟨n, by omega, hp, h⟩
      · refine Or.inr (fun d hd => ?_)
        rcases Nat.lt_or_ge d n with h1 | h1
        · exact h d h1
        · rw [show d = n by omega]; exact hp
abbrev sp_od (b : Nat → Int32) (k : Nat) (X Y s : Int32) (d : Nat) : Prop := (¬ (X + s * cr_sx d) < 0 ∧ ¬ (30 : Int32) < (X + s * cr_sx d) ∧ ¬ (Y + s * cr_sy d) < 0 ∧ ¬ (30 : Int32) < (Y + s * cr_sy d)) ∧ sp_rs b (X + s * cr_sx d) (Y + s * cr_sy d) k = 0
theorem cr_isDir {d : Nat} (h : d < 8) : f_X7_isDirection (nI d) = some 1 := by
  unfold f_X7_isDirection
  rw [if_neg (cr_nn (by omega)), cr_L8, if_neg (nI_ge h (by decide)), if_neg (nI_ge h (by decide))]
theorem cr_isDir0 {x : Int32} (h : x < 0 ∨ nI 8 ≤ x) : f_X7_isDirection x = some 0 := by
  unfold f_X7_isDirection
  by_cases h1 : x < 0
  · rw [if_pos h1]
  · rw [if_neg h1, cr_L8, if_pos (h.resolve_left h1)]
theorem cr_stepX {d : Nat} (h : d < 8) : f_X7_stepX (nI d) = some (cr_sx d) := by
  unfold f_X7_stepX
  rw [cr_isDir h, cr_bd_some, if_neg (by decide), cr_gd_e (cr_ix_nI h (by decide)), nI_clamp (by omega)]
theorem cr_stepY {d : Nat} (h : d < 8) : f_X7_stepY (nI d) = some (cr_sy d) := by
  unfold f_X7_stepY
  rw [cr_isDir h, cr_bd_some, if_neg (by decide), cr_gd_e (cr_ix_nI h (by decide)), nI_clamp (by omega)]
theorem cr_outStep {a p d : Nat} {V : cr_Hp} {b : Nat → Int32} {n k : Nat} {s : Int32} (hB : cr_B b n k) (hC : cr_C a V b n k) (hd : d < 8) : f_X3_isOutAfter_l2 a p s (nI d) V = some (if sp_od b k (V p 1) (V p 2) s d then .inr (.inl ()) else .inl (nI (d + 1))) := by
  unfold f_X3_isOutAfter_l2
  rw [cr_L8, if_neg (nI_ge hd (by decide)), cr_stepX hd, cr_stepY hd, cr_1]
  simp only [cr_bd_some, cr_lt_e, cr_pt2a, cr_ringsAround hB hC]
  by_cases h1 : ¬ (V p 1 + s * cr_sx d) < 0 ∧ ¬ (30 : Int32) < (V p 1 + s * cr_sx d) ∧ ¬ (V p 2 + s * cr_sy d) < 0 ∧ ¬ (30 : Int32) < (V p 2 + s * cr_sy d)
  · rw [if_pos h1, if_neg (by decide)]
    by_cases h2 : sp_rs b (V p 1 + s * cr_sx d) (V p 2 + s * cr_sy d) k = 0
    · rw [if_pos h2, if_pos ⟨h1, h2⟩]
    · rw [if_neg h2, if_neg (fun h => h2 h.2)]
  · rw [if_neg h1, if_pos (by decide), if_neg (fun h => h1 h.1)]
theorem cr_outY {a p : Nat} {V : cr_Hp} {b : Nat → Int32} {n k : Nat} {s : Int32} (hB : cr_B b n k) (hC : cr_C a V b n k) (h : ∃ d, d < 8 ∧ sp_od b k (V p 1) (V p 2) s d) : f_X3_isOutAfter a p s V = some 1 := by
  unfold f_X3_isOutAfter
  rcases cr_least (P := sp_od b k (V p 1) (V p 2) s) 8 with ⟨d, hd, h1, h2⟩ | hn
  · refine Eq.trans (cr_bd_for (fun i => nI i) d (r := .inl ()) ?_ ?_ (by omega) rfl) rfl
    · intro j hj
      show f_X3_isOutAfter_l2 a p s (nI j) V = _
      rw [cr_outStep hB hC (by omega), if_neg (h2 j hj)]
    · show f_X3_isOutAfter_l2 a p s (nI d) V = _
      rw [cr_outStep hB hC hd, if_pos h1]
  · obtain ⟨d, hd, h1⟩ := h
    exact absurd h1 (hn d hd)
theorem cr_outN {a p : Nat} {V : cr_Hp} {b : Nat → Int32} {n k : Nat} {s : Int32} (hB : cr_B b n k) (hC : cr_C a V b n k) (h : ∀ d, d < 8 → ¬ sp_od b k (V p 1) (V p 2) s d) : f_X3_isOutAfter a p s V = some 0 := by
  unfold f_X3_isOutAfter
  refine Eq.trans (cr_bd_for (fun i => nI i) 8 (r := .inr ()) ?_ ?_ (by omega) rfl) rfl
  · intro j hj
    show f_X3_isOutAfter_l2 a p s (nI j) V = _
    rw [cr_outStep hB hC hj, if_neg (h j hj)]
  · show f_X3_isOutAfter_l2 a p s (nI 8) V = _
    unfold f_X3_isOutAfter_l2
    rw [cr_L8, if_pos (nI_le (Nat.le_refl 8) (by decide))]
/-- the model's -/
def sp_st (b : Nat → Int32) (k : Nat) (X Y s f : Int32) : Nat → Int32
  | 0 => f
  | d + 1 => if sp_od b k X Y s d then s else sp_st b k X Y s f d
theorem sp_st_n {b : Nat → Int32} {k : Nat} {X Y s f : Int32} : ∀ i : Nat, (∀ d, d < i → ¬ sp_od b k X Y s d) → sp_st b k X Y s f i = f
  | 0, _ => rfl
  | i + 1, h => by
    show (if _ then _ else _) = _
    rw [if_neg (h i (by omega))]
    exact sp_st_n i (fun d hd => h d (by omega))
theorem sp_st_y {b : Nat → Int32} {k : Nat} {X Y s f : Int32} : ∀ i : Nat, (∃ d, d < i ∧ sp_od b k X Y s d) → sp_st b k X Y s f i = s
  | 0, h => by obtain ⟨d, hd, _⟩ := h; omega
  | i + 1, h => by
    show (if _ then _ else _) = _
    by_cases hi : sp_od b k X Y s i
    · rw [if_pos hi]
    · rw [if_neg hi]
      obtain ⟨d, hd, h1⟩ := h
      rcases Nat.lt_or_ge d i with h2 | h2
      · exact sp_st_y i ⟨d, h2, h1⟩
      · rw [show d = i by omega] at h1; exact absurd h1 hi
theorem cr_od0 {b : Nat → Int32} {n k j d : Nat} (hB : cr_B b n k) (hj : j < n) : sp_od b k (b (8 + 5 * j)) (b (8 + 5 * j + 1)) (nI 0) d ↔ sp_rs b (b (8 + 5 * j)) (b (8 + 5 * j + 1)) k = 0 := by
  obtain ⟨x, y, s, o, hx, hy, -, -, -, ex, ey, -, -, -⟩ := hB.2.2.2.2.2.1 j hj
  have e1 : b (8 + 5 * j) + nI 0 * cr_sx d = b (8 + 5 * j) := by rw [← cr_L0, Int32.zero_mul, Int32.add_zero]
  have e2 : b (8 + 5 * j + 1) + nI 0 * cr_sy d = b (8 + 5 * j + 1) := by rw [← cr_L0, Int32.zero_mul, Int32.add_zero]
  unfold sp_od
  rw [e1, e2]
  constructor
  · exact fun h => h.2
  · intro h
    refine ⟨?_, h⟩
    rw [ex, ey]
    exact ⟨cr_nn (by omega), cr_n30 (by omega), cr_nn (by omega), cr_n30 (by omega)⟩
theorem cr_way0 {j : Nat} {V : cr_Hp} {b : Nat → Int32} {n k : Nat} (hB : cr_B b n k) (hC : cr_C 0 V b n k) (hj : j < n) (l : ¬ cr_lie b j) : f_X7_wayOut (nI j) V = some (-1003) := by
  have hn := hB.1
  have l6 : V (0 + 1 + 2 + j) 6 = 0 := by
    rcases hC.2.2.2.2.1 j hj with ⟨h, -, -⟩ | ⟨-, h, -⟩
    · exact absurd h l
    · exact h
  unfold f_X7_wayOut
  rw [cr_find_s hB hC hj, cr_bd_some, cr_on_1, cr_gd_e (cr_ms_ma (cr_pg_ms hC.1) (by omega)), l6, if_pos (by decide)]
