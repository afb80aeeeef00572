/-! the asking methods: both sides answer alike -/
/-- a marble's numbers, by the board -/
def sp_mb (b : Nat → Int32) (k j c : Nat) : Int32 :=
  if c = 0 then (if b (8 + 5 * j + 4) = -1006 then b (8 + 5 * j) else -1006)
  else if c = 1 then (if b (8 + 5 * j + 4) = -1006 then b (8 + 5 * j + 1) else -1006)
  else if c = 2 then b (8 + 5 * j + 2) else if c = 3 then b (8 + 5 * j + 3)
  else if c = 4 then b (8 + 5 * j + 4)
  else (if b (8 + 5 * j + 4) = -1006 then sp_rs b (b (8 + 5 * j)) (b (8 + 5 * j + 1)) k else -1006)
theorem cr_marble {V : cr_Hp} {b : Nat → Int32} {n k j c : Nat} (hB : cr_B b n k) (hC : cr_C 0 V b n k) (hj : j < n) (hc : c < 6) : f_X7_marble (nI j) (nI c) V = some (sp_mb b k j c) := by
  have hn := hB.1
  unfold f_X7_marble
  rw [cr_find_s hB hC hj, cr_bd_some, cr_on_1, cr_gd_e (cr_ms_ma (cr_pg_ms hC.1) (by omega))]
  obtain ⟨e1, e2, e3, e4⟩ := hC.2.2.2.1 j hj
  have hc2 : c = 0 ∨ c = 1 ∨ c = 2 ∨ c = 3 ∨ c = 4 ∨ c = 5 := by omega
  rcases hC.2.2.2.2.1 j hj with ⟨l, l6, l5⟩ | ⟨l, l6, l5⟩ <;> rcases hc2 with rfl | rfl | rfl | rfl | rfl | rfl
  · rw [if_pos (by decide), l6, if_neg (by decide), e1]; unfold sp_mb; rw [if_pos (by decide), if_pos l]
  · rw [if_neg (by decide), if_pos (by decide), l6, if_neg (by decide), e2]; unfold sp_mb; rw [if_neg (by decide), if_pos (by decide), if_pos l]
  · rw [if_neg (by decide), if_neg (by decide), if_pos (by decide), e3]; rfl
  · rw [if_neg (by decide), if_neg (by decide), if_neg (by decide), if_pos (by decide), e4]; rfl
  · rw [if_neg (by decide), if_neg (by decide), if_neg (by decide), if_neg (by decide), if_pos (by decide), l6, if_neg (by decide)]; exact congrArg some l.symm
  · rw [if_neg (by decide), if_neg (by decide), if_neg (by decide), if_neg (by decide), if_neg (by decide), if_pos (by decide), l6, if_neg (by decide), e1, e2, cr_ringsAround hB hC, cr_bd_some]; unfold sp_mb; rw [if_neg (by decide), if_neg (by decide), if_neg (by decide), if_neg (by decide), if_neg (by decide), if_pos l]
  · rw [if_pos (by decide), l6, if_pos (by decide)]; unfold sp_mb; rw [if_pos (by decide), if_neg l]
  · rw [if_neg (by decide), if_pos (by decide), l6, if_pos (by decide)]; unfold sp_mb; rw [if_neg (by decide), if_pos (by decide), if_neg l]
  · rw [if_neg (by decide), if_neg (by decide), if_pos (by decide), e3]; rfl
  · rw [if_neg (by decide), if_neg (by decide), if_neg (by decide), if_pos (by decide), e4]; rfl
  · rw [if_neg (by decide), if_neg (by decide), if_neg (by decide), if_neg (by decide), if_pos (by decide), l6, if_pos (by decide), l5]; rfl
  · rw [if_neg (by decide), if_neg (by decide), if_neg (by decide), if_neg (by decide), if_neg (by decide), if_pos (by decide), l6, if_pos (by decide)]; unfold sp_mb; rw [if_neg (by decide), if_neg (by decide), if_neg (by decide), if_neg (by decide), if_neg (by decide), if_neg l]
def sp_rg (b : Nat → Int32) (n r c : Nat) : Int32 := if c < 3 then b (68 + 3 * r + c) else if c = 3 then sp_mi b r n else sp_p2 b r 31
theorem cr_ring {V : cr_Hp} {b : Nat → Int32} {n k r c : Nat} (hB : cr_B b n k) (hC : cr_C 0 V b n k) (hr : r < k) (hc : c < 5) : f_X7_ring (nI r) (nI c) V = some (sp_rg b n r c) := by
  have hk := hB.2.1
  unfold f_X7_ring
  rw [cr_findr_s hB hC hr, cr_bd_some, cr_on_1, cr_gd_e (cr_rs_rg (cr_pg_rs hC.1) (by omega))]
  obtain ⟨e0, e1, e2⟩ := hC.2.2.2.2.2.2.1 r hr
  have hc2 : c = 0 ∨ c = 1 ∨ c = 2 ∨ c = 3 ∨ c = 4 := by omega
  rcases hc2 with rfl | rfl | rfl | rfl | rfl
  · rw [if_pos (by decide), e0]; rfl
  · rw [if_neg (by decide), if_pos (by decide), e1]; rfl
  · rw [if_neg (by decide), if_neg (by decide), if_pos (by decide), e2]; rfl
  · rw [if_neg (by decide), if_neg (by decide), if_neg (by decide), if_pos (by decide), cr_marblesIn hB hC hr, cr_bd_some]; rfl
  · rw [if_neg (by decide), if_neg (by decide), if_neg (by decide), if_neg (by decide), if_pos (by decide), cr_pointsIn hB hC hr, cr_bd_some]; rfl
theorem cr_isPl {x : Int32} (h : x < 0 ∨ nI 3 ≤ x) : f_X7_isPlayer x = some 0 := by
  unfold f_X7_isPlayer
  by_cases h1 : x < 0
  · rw [if_pos h1]
  · rw [cr_L3, if_neg h1, if_pos (h.resolve_left h1)]
theorem cr_isPlY {j : Nat} (h : j < 3) : f_X7_isPlayer (nI j) = some 1 := by
  unfold f_X7_isPlayer
  rw [if_neg (cr_nn (by omega)), cr_L3, if_neg (nI_ge h (by decide))]
