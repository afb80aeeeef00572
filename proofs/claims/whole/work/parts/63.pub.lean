/-! the asking methods: both sides answer alike -/
theorem cr_win {x c : Int32} {m : Nat} (e : c = nI m) (hm : m < 100) (h : x < 0 ∨ nI (m + 1) ≤ x) : f_X8_within x (0 : Int32) c = some 0 := by
  subst e
  rw [cr_within, if_neg]
  intro ⟨h1, h2⟩
  have h3 := h.resolve_left h1
  apply h2
  rw [Int32.lt_iff_toInt_lt, nI_toInt (by omega)]
  rw [Int32.le_iff_toInt_le, nI_toInt (by omega)] at h3
  omega
theorem cr_winY {c : Int32} {j m : Nat} (e : c = nI m) (hm : m < 100) (h : j ≤ m) : f_X8_within (nI j) (0 : Int32) c = some 1 := by
  subst e
  rw [cr_within, if_pos ⟨cr_nn (by omega), nI_nlt h (by omega)⟩]
theorem cr_q_count {V : cr_Hp} {b : Nat → Int32} {n k : Nat} (hC : cr_C 0 V b n k) (hV : V 160 = b) (x : Int32) : ∃ r, f_X7_count x V = some r ∧ f_X8_count x V = some r := by
  have hc := hC.2.1
  rcases cr_any_lt x (n := 8) (by decide) with h | ⟨j, hj, rfl⟩
  · have no : ∀ c : Int32, ¬ (c < 0 ∨ nI 8 ≤ c) → ¬ x = c := fun c hc e => hc (e ▸ h)
    refine ⟨-1002, ?_, ?_⟩
    · unfold f_X7_count
      rw [if_neg (no 0 (by decide)), if_neg (no 1 (by decide)), if_neg (no 2 (by decide)), if_neg (no 3 (by decide)), if_neg (no 4 (by decide)), if_neg (no 5 (by decide)), if_neg (no 6 (by decide)), if_neg (no 7 (by decide))]
    · unfold f_X8_count
      rw [cr_win cr_L7 (by decide) h, cr_bd_some, if_pos (by decide)]
  · refine ⟨b j, ?_, ?_⟩
    · have hj2 : j = 0 ∨ j = 1 ∨ j = 2 ∨ j = 3 ∨ j = 4 ∨ j = 5 ∨ j = 6 ∨ j = 7 := by omega
      rcases hj2 with rfl | rfl | rfl | rfl | rfl | rfl | rfl | rfl
      · exact congrArg some (hc 0 (by decide))
      · exact congrArg some (hc 1 (by decide))
      · exact congrArg some (hc 2 (by decide))
      · exact congrArg some (hc 3 (by decide))
      · exact congrArg some (hc 4 (by decide))
      · exact congrArg some (hc 5 (by decide))
      · exact congrArg some (hc 6 (by decide))
      · exact congrArg some (hc 7 (by decide))
    · unfold f_X8_count
      rw [cr_winY cr_L7 (by decide) (Nat.le_of_lt_succ hj), cr_bd_some, if_neg (by decide), cr_gd_e (cr_ix_nI (by omega) (by decide)), nI_clamp (by omega), hV]
/-- a marble's numbers, by the board -/
def sp_mb (b : Nat → Int32) (k j c : Nat) : Int32 :=
  if c = 0 then (if b (8 + 5 * j + 4) = -1006 then b (8 + 5 * j) else -1006)
  else if c = 1 then (if b (8 + 5 * j + 4) = -1006 then b (8 + 5 * j + 1) else -1006)
  else if c = 2 then b (8 + 5 * j + 2) else if c = 3 then b (8 + 5 * j + 3)
  else if c = 4 then b (8 + 5 * j + 4)
  else (if b (8 + 5 * j + 4) = -1006 then sp_rs b (b (8 + 5 * j)) (b (8 + 5 * j + 1)) k else -1006)
theorem cr_marble {V : cr_Hp} {b : Nat → Int32} {n k j c : Nat} (hB : cr_B b n k) (hC : cr_C 0 V b n k) (hj : j < n) (hc : c < 6) : f_X7_marble (nI j) (nI c) V = some (sp_mb b k j c) := by
  have hn := hB.1
  unfold f_X7_marble
  rw [cr_find_s hB hC hj, cr_bd_some, cr_on_1, cr_gd_e (cr_ms_ma (cr_pg_ms hC.1) (by omega))]
  obtain ⟨e1, e2, e3, e4⟩ := hC.2.2.2.1 j hj
  have hc2 : c = 0 ∨ c = 1 ∨ c = 2 ∨ c = 3 ∨ c = 4 ∨ c = 5 := by omega
  rcases hC.2.2.2.2.1 j hj with ⟨l, l6, l5⟩ | ⟨l, l6, l5⟩ <;> rcases hc2 with rfl | rfl | rfl | rfl | rfl | rfl
  · rw [if_pos (by decide), l6, if_neg (by decide), e1]; unfold sp_mb; rw [if_pos (by decide), if_pos l]
  · rw [if_neg (by decide), if_pos (by decide), l6, if_neg (by decide), e2]; unfold sp_mb; rw [if_neg (by decide), if_pos (by decide), if_pos l]
  · rw [if_neg (by decide), if_neg (by decide), if_pos (by decide), e3]; rfl
  · rw [if_neg (by decide), if_neg (by decide), if_neg (by decide), if_pos (by decide), e4]; rfl
  · rw [if_neg (by decide), if_neg (by decide), if_neg (by decide), if_neg (by decide), if_pos (by decide), l6, if_neg (by decide)]; exact congrArg some l.symm
  · rw [if_neg (by decide), if_neg (by decide), if_neg (by decide), if_neg (by decide), if_neg (by decide), if_pos (by decide), l6, if_neg (by decide), e1, e2, cr_ringsAround hB hC, cr_bd_some]; unfold sp_mb; rw [if_neg (by decide), if_neg (by decide), if_neg (by decide), if_neg (by decide), if_neg (by decide), if_pos l]
  · rw [if_pos (by decide), l6, if_pos (by decide)]; unfold sp_mb; rw [if_pos (by decide), if_neg l]
  · rw [if_neg (by decide), if_pos (by decide), l6, if_pos (by decide)]; unfold sp_mb; rw [if_neg (by decide), if_pos (by decide), if_neg l]
  · rw [if_neg (by decide), if_neg (by decide), if_pos (by decide), e3]; rfl
  · rw [if_neg (by decide), if_neg (by decide), if_neg (by decide), if_pos (by decide), e4]; rfl
  · rw [if_neg (by decide), if_neg (by decide), if_neg (by decide), if_neg (by decide), if_pos (by decide), l6, if_pos (by decide), l5]; rfl
  · rw [if_neg (by decide), if_neg (by decide), if_neg (by decide), if_neg (by decide), if_neg (by decide), if_pos (by decide), l6, if_pos (by decide)]; unfold sp_mb; rw [if_neg (by decide), if_neg (by decide), if_neg (by decide), if_neg (by decide), if_neg (by decide), if_neg l]
theorem cr_ofMarble {V : cr_Hp} {b : Nat → Int32} {n k j c : Nat} (hB : cr_B b n k) (hV : V 160 = b) (hj : j < n) (hc : c < 6) : f_X8_ofMarble (nI j) (nI c) V = some (sp_mb b k j c) := by
  have hn := hB.1
  have hj2 : j < 12 := by omega
  have hc2 : c = 0 ∨ c = 1 ∨ c = 2 ∨ c = 3 ∨ c = 4 ∨ c = 5 := by omega
  unfold f_X8_ofMarble
  by_cases l : cr_lie b j
  · rw [cr_mthere hj2 hV l]
    simp only [cr_bd_some]
    rcases hc2 with rfl | rfl | rfl | rfl | rfl | rfl
    · rw [if_pos (by decide), if_neg (by decide), cr_mpart (by omega), cr_bd_some, hV]; unfold sp_mb; rw [if_pos (by decide), if_pos l]; rfl
    · rw [if_neg (by decide), if_pos (by decide), if_neg (by decide), cr_mpart (by omega), cr_bd_some, hV]; unfold sp_mb; rw [if_neg (by decide), if_pos (by decide), if_pos l]
    · rw [if_neg (by decide), if_neg (by decide), if_neg (by decide), cr_mpart (by omega), cr_bd_some, hV]; rfl
    · rw [if_neg (by decide), if_neg (by decide), if_neg (by decide), cr_mpart (by omega), cr_bd_some, hV]; rfl
    · rw [if_neg (by decide), if_neg (by decide), if_neg (by decide), cr_mpart (by omega), cr_bd_some, hV]; rfl
    · rw [if_neg (by decide), if_neg (by decide), if_pos (by decide), if_neg (by decide), cr_mringsM hj2 hB hV, cr_bd_some]; unfold sp_mb; rw [if_neg (by decide), if_neg (by decide), if_neg (by decide), if_neg (by decide), if_neg (by decide), if_pos l]
  · rw [cr_mthere0 hj2 hV l]
    simp only [cr_bd_some]
    rcases hc2 with rfl | rfl | rfl | rfl | rfl | rfl
    · rw [if_pos (by decide), if_pos (by decide)]; unfold sp_mb; rw [if_pos (by decide), if_neg l]
    · rw [if_neg (by decide), if_pos (by decide), if_pos (by decide)]; unfold sp_mb; rw [if_neg (by decide), if_pos (by decide), if_neg l]
    · rw [if_neg (by decide), if_neg (by decide), if_neg (by decide), cr_mpart (by omega), cr_bd_some, hV]; rfl
    · rw [if_neg (by decide), if_neg (by decide), if_neg (by decide), cr_mpart (by omega), cr_bd_some, hV]; rfl
    · rw [if_neg (by decide), if_neg (by decide), if_neg (by decide), cr_mpart (by omega), cr_bd_some, hV]; rfl
    · rw [if_neg (by decide), if_neg (by decide), if_pos (by decide), if_pos (by decide)]; unfold sp_mb; rw [if_neg (by decide), if_neg (by decide), if_neg (by decide), if_neg (by decide), if_neg (by decide), if_neg l]
theorem cr_q_marble {V : cr_Hp} {b : Nat → Int32} {n k : Nat} (hB : cr_B b n k) (hC : cr_C 0 V b n k) (hV : V 160 = b) (x y : Int32) : ∃ r, f_X7_marble x y V = some r ∧ f_X8_marble x y V = some r := by
  have hn := hB.1
  rcases cr_any_lt x (n := n) (by omega) with h | ⟨j, hj, rfl⟩
  · refine ⟨-1001, ?_, ?_⟩
    · unfold f_X7_marble
      rw [cr_find_n hB hC h, cr_bd_some, cr_on_0]
    · unfold f_X8_marble
      rw [cr_isM_n hB hV h, cr_bd_some, if_pos (by decide)]
  · rcases cr_any_lt y (n := 6) (by decide) with h | ⟨c, hc, rfl⟩
    · have no : ∀ c : Int32, ¬ (c < 0 ∨ nI 6 ≤ c) → ¬ y = c := fun c hc e => hc (e ▸ h)
      refine ⟨-1002, ?_, ?_⟩
      · unfold f_X7_marble
        rw [cr_find_s hB hC hj, cr_bd_some, cr_on_1, cr_gd_e (cr_ms_ma (cr_pg_ms hC.1) (by omega)), if_neg (no 0 (by decide)), if_neg (no 1 (by decide)), if_neg (no 2 (by decide)), if_neg (no 3 (by decide)), if_neg (no 4 (by decide)), if_neg (no 5 (by decide))]
      · unfold f_X8_marble
        rw [cr_isM_s hB hV hj, cr_bd_some, if_neg (by decide), cr_win cr_L5 (by decide) h, cr_bd_some, if_pos (by decide)]
    · refine ⟨sp_mb b k j c, cr_marble hB hC hj hc, ?_⟩
      unfold f_X8_marble
      rw [cr_isM_s hB hV hj, cr_bd_some, if_neg (by decide), cr_winY cr_L5 (by decide) (Nat.le_of_lt_succ hc), cr_bd_some, if_neg (by decide), cr_ofMarble hB hV hj hc, cr_bd_some]
def sp_rg (b : Nat → Int32) (n r c : Nat) : Int32 := if c < 3 then b (68 + 3 * r + c) else if c = 3 then sp_mi b r n else sp_p2 b r 31
theorem cr_ring {V : cr_Hp} {b : Nat → Int32} {n k r c : Nat} (hB : cr_B b n k) (hC : cr_C 0 V b n k) (hr : r < k) (hc : c < 5) : f_X7_ring (nI r) (nI c) V = some (sp_rg b n r c) := by
  have hk := hB.2.1
  unfold f_X7_ring
  rw [cr_findr_s hB hC hr, cr_bd_some, cr_on_1, cr_gd_e (cr_rs_rg (cr_pg_rs hC.1) (by omega))]
  obtain ⟨e0, e1, e2⟩ := hC.2.2.2.2.2.2.1 r hr
  have hc2 : c = 0 ∨ c = 1 ∨ c = 2 ∨ c = 3 ∨ c = 4 := by omega
  rcases hc2 with rfl | rfl | rfl | rfl | rfl
  · rw [if_pos (by decide), e0]; rfl
  · rw [if_neg (by decide), if_pos (by decide), e1]; rfl
  · rw [if_neg (by decide), if_neg (by decide), if_pos (by decide), e2]; rfl
  · rw [if_neg (by decide), if_neg (by decide), if_neg (by decide), if_pos (by decide), cr_marblesIn hB hC hr, cr_bd_some]; rfl
  · rw [if_neg (by decide), if_neg (by decide), if_neg (by decide), if_neg (by decide), if_pos (by decide), cr_pointsIn hB hC hr, cr_bd_some]; rfl
theorem cr_ofRing {V : cr_Hp} {b : Nat → Int32} {n k r c : Nat} (hB : cr_B b n k) (hV : V 160 = b) (hr : r < k) (hc : c < 5) : f_X8_ofRing (nI r) (nI c) V = some (sp_rg b n r c) := by
  have hk := hB.2.1
  unfold f_X8_ofRing
  have hc2 : c = 0 ∨ c = 1 ∨ c = 2 ∨ c = 3 ∨ c = 4 := by omega
  rcases hc2 with rfl | rfl | rfl | rfl | rfl
  · rw [if_neg (by decide), cr_mring (by omega), cr_bd_some, hV]; rfl
  · rw [if_neg (by decide), cr_mring (by omega), cr_bd_some, hV]; rfl
  · rw [if_neg (by decide), cr_mring (by omega), cr_bd_some, hV]; rfl
  · rw [if_pos (by decide), if_pos (by decide), cr_mmarblesIn hB hV hr, cr_bd_some]; rfl
  · rw [if_pos (by decide), if_neg (by decide), cr_mpointsIn hV (by omega), cr_bd_some]; rfl
theorem cr_q_ring {V : cr_Hp} {b : Nat → Int32} {n k : Nat} (hB : cr_B b n k) (hC : cr_C 0 V b n k) (hV : V 160 = b) (x y : Int32) : ∃ r, f_X7_ring x y V = some r ∧ f_X8_ring x y V = some r := by
  have hk := hB.2.1
  have h1 := hB.2.2.2.1
  rcases cr_any_lt x (n := k) (by omega) with h | ⟨j, hj, rfl⟩
  · refine ⟨-1001, ?_, ?_⟩
    · unfold f_X7_ring
      rw [cr_findr_n hB hC h, cr_bd_some, cr_on_0]
    · unfold f_X8_ring
      rw [cr_G1, cr_T1, hV, h1, cr_win_n h (by omega), cr_bd_some, if_pos (by decide)]
  · rcases cr_any_lt y (n := 5) (by decide) with h | ⟨c, hc, rfl⟩
    · have no : ∀ c : Int32, ¬ (c < 0 ∨ nI 5 ≤ c) → ¬ y = c := fun c hc e => hc (e ▸ h)
      refine ⟨-1002, ?_, ?_⟩
      · unfold f_X7_ring
        rw [cr_findr_s hB hC hj, cr_bd_some, cr_on_1, cr_gd_e (cr_rs_rg (cr_pg_rs hC.1) (by omega)), if_neg (no 0 (by decide)), if_neg (no 1 (by decide)), if_neg (no 2 (by decide)), if_neg (no 3 (by decide)), if_neg (no 4 (by decide))]
      · unfold f_X8_ring
        rw [cr_G1, cr_T1, hV, h1, cr_win_s hj (by omega), cr_bd_some, if_neg (by decide), cr_win cr_L4 (by decide) h, cr_bd_some, if_pos (by decide)]
    · refine ⟨sp_rg b n j c, cr_ring hB hC hj hc, ?_⟩
      unfold f_X8_ring
      rw [cr_G1, cr_T1, hV, h1, cr_win_s hj (by omega), cr_bd_some, if_neg (by decide), cr_winY cr_L4 (by decide) (Nat.le_of_lt_succ hc), cr_bd_some, if_neg (by decide), cr_ofRing hB hV hj hc, cr_bd_some]
theorem cr_q_at {V : cr_Hp} {b : Nat → Int32} {n k : Nat} (hB : cr_B b n k) (hC : cr_C 0 V b n k) (hV : V 160 = b) (x y : Int32) : ∃ r, f_X7_at x y V = some r ∧ f_X8_at x y V = some r := by
  have hn := hB.1
  unfold f_X7_at f_X8_at
  rw [cr_pt2a, cr_pt2b, cr_bd_some, cr_bd_some]
  by_cases hp : ¬ x < 0 ∧ ¬ (30 : Int32) < x ∧ ¬ y < 0 ∧ ¬ (30 : Int32) < y
  · rw [if_pos hp, if_neg (by decide), if_neg (by decide)]
    rcases cr_on_em (b := b) (n := n) (x := x) (y := y) with ⟨i, hi, ho⟩ | ho
    · rw [cr_marbleOn_s hB hC hi ho, cr_marbleAt_s hB hV hi ho, cr_bd_some, cr_bd_some, cr_on_1, cr_gd_e (cr_ms_ma (cr_pg_ms hC.1) (by omega)), hC.2.2.1 i (by omega)]
      exact ⟨_, rfl, rfl⟩
    · rw [cr_marbleOn_n hB hC ho, cr_marbleAt_n hB hV ho, cr_bd_some, cr_bd_some, cr_on_0]
      exact ⟨_, rfl, rfl⟩
  · rw [if_neg hp, if_pos (by decide), if_pos (by decide)]
    exact ⟨_, rfl, rfl⟩
theorem cr_isPl {x : Int32} (h : x < 0 ∨ nI 3 ≤ x) : f_X7_isPlayer x = some 0 := by
  unfold f_X7_isPlayer
  by_cases h1 : x < 0
  · rw [if_pos h1]
  · rw [cr_L3, if_neg h1, if_pos (h.resolve_left h1)]
theorem cr_isPlY {j : Nat} (h : j < 3) : f_X7_isPlayer (nI j) = some 1 := by
  unfold f_X7_isPlayer
  rw [if_neg (cr_nn (by omega)), cr_L3, if_neg (nI_ge h (by decide))]
theorem cr_q_score {V : cr_Hp} {b : Nat → Int32} {n k : Nat} (hB : cr_B b n k) (hC : cr_C 0 V b n k) (hV : V 160 = b) (x : Int32) : ∃ r, f_X7_score x V = some r ∧ f_X8_score x V = some r := by
  unfold f_X7_score f_X8_score
  rcases cr_any_lt x (n := 3) (by decide) with h | ⟨j, hj, rfl⟩
  · rw [cr_isPl h, cr_win cr_L2 (by decide) h, cr_bd_some, cr_bd_some, if_pos (by decide), if_pos (by decide)]
    exact ⟨_, rfl, rfl⟩
  · rw [cr_isPlY hj, cr_winY cr_L2 (by decide) (Nat.le_of_lt_succ hj), cr_bd_some, cr_bd_some, if_neg (by decide), if_neg (by decide), cr_points hB hC, cr_scoreOf hB hV]
    exact ⟨_, rfl, rfl⟩
theorem cr_q_leader {V : cr_Hp} {b : Nat → Int32} {n k : Nat} (hB : cr_B b n k) (hC : cr_C 0 V b n k) (hV : V 160 = b) : ∃ r, f_X7_leader V = some r ∧ f_X8_leader V = some r := by
  refine ⟨_, cr_leader hB hC, ?_⟩
  unfold f_X8_leader
  rw [cr_findLeader hB hV, cr_bd_some]
