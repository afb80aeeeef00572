/-! the law's loop -/
theorem cr_I0 : cr_I cr_V0 := by
  have z : ∀ a t, ¬ (a < 152 ∧ 3 ≤ a % 19 ∧ a % 19 < 15) → a ≠ 164 → a ≠ 165 → cr_V0 a t = 0 := by
    intro a t h1 h2 h3
    unfold cr_V0
    rw [if_neg h1, if_neg h2, if_neg h3]
  have num : ∀ a, cr_pg a → ∀ j, j < 12 → ∀ t, cr_V0 (a + 1 + 2 + j) t = if t = 0 then nI j else if t = 5 then -1 else 0 := by
    intro a ha j hj t
    unfold cr_V0
    rw [if_pos (by omega), show (a + 1 + 2 + j) % 19 - 3 = j by omega]
  refine ⟨fun _ => 0, 0, 0, 0, fun _ _ => 0, 0, fun _ => 0, ⟨cr_B_0, ⟨by omega, fun c hc => z _ _ (by omega) (by omega) (by omega), fun j hj => by rw [num 0 (by omega) j hj]; rfl, fun j hj => absurd hj (by omega), fun j hj => absurd hj (by omega), fun j _ hj => by rw [num 0 (by omega) j hj, num 0 (by omega) j hj]; exact ⟨rfl, rfl⟩, fun j hj => absurd hj (by omega), fun r _ hr => z _ _ (by omega) (by omega) (by omega)⟩, fun a ha j hj => by rw [num a ha j hj]; rfl, ⟨0, by omega, z _ _ (by omega) (by omega) (by omega), z _ _ (by omega) (by omega) (by omega), by omega, fun i hi => absurd hi (by omega)⟩, ⟨by omega, fun i hi => absurd hi (by omega)⟩, z _ _ (by omega) (by omega) (by omega), fun i hi => absurd hi (by omega)⟩, ⟨?_, z _ _ (by omega) (by omega) (by omega), fun i hi => absurd hi (by omega), z _ _ (by omega) (by omega) (by omega), fun i hi => absurd hi (by omega), ?_, ?_⟩⟩
  · funext t
    exact z _ _ (by omega) (by omega) (by omega)
  · funext t
    rfl
  · funext t
    rfl
theorem cr_cmp0 (a : Int64) : lg_cmp a a = 0 := by
  unfold lg_cmp
  simp
theorem cr_step {nL q : Nat} {xs : Nat → Int32} {V : cr_Hp} (hnL : nL ≤ 2560) (hq : q + 5 ≤ nL) (hI : cr_I V) : ∃ V', f_L_law_l18 nL xs (nI q) V = some (.inl (nI (q + 5), V')) ∧ cr_I V' := by
  have e5 : nI q + (5 : Int32) = nI (q + 5) := nI_add q 5
  have g0 : cr_ix (nI q) nL := cr_ix_nI (by omega) (by omega)
  have g1 : cr_ix (nI q + (1 : Int32)) nL := by rw [show nI q + (1 : Int32) = nI (q + 1) from nI_add q 1]; exact cr_ix_nI (by omega) (by omega)
  have g2 : cr_ix (nI q + (2 : Int32)) nL := by rw [show nI q + (2 : Int32) = nI (q + 2) from nI_add q 2]; exact cr_ix_nI (by omega) (by omega)
  have g3 : cr_ix (nI q + (3 : Int32)) nL := by rw [show nI q + (3 : Int32) = nI (q + 3) from nI_add q 3]; exact cr_ix_nI (by omega) (by omega)
  have g4 : cr_ix (nI q + (4 : Int32)) nL := by rw [show nI q + (4 : Int32) = nI (q + 4) from nI_add q 4]; exact cr_ix_nI (by omega) (by omega)
  have hend : ¬ ((Int32.ofNat nL) - (5 : Int32)) < nI q := by
    rw [show (Int32.ofNat nL) - (5 : Int32) = nI (nL - 5) from (pk_sub (a := nL) (b := 5) (by omega))]
    exact nI_nlt (by omega) (by omega)
  have hb : ∃ b n k m H L T, cr_IC V b n k m H L T ∧ cr_IM V b m H L T := hI
  obtain ⟨b, n, k, m, H, L, T, hC, hM⟩ := hb
  obtain ⟨w, ew⟩ : ∃ w, w = (xs (nI q).toNatClampNeg) &&& (31 : Int32) := ⟨_, rfl⟩
  unfold f_L_law_l18
  rw [if_neg hend, cr_gd_e g0, ← ew, e5]
  by_cases h0 : w = (0 : Int32)
  · obtain ⟨r, V1, V2, e1, e2, hV2⟩ := cr_m_put hI (xs (nI q + (1 : Int32)).toNatClampNeg) (xs (nI q + (2 : Int32)).toNatClampNeg) (xs (nI q + (3 : Int32)).toNatClampNeg) (xs (nI q + (4 : Int32)).toNatClampNeg)
    rw [if_pos h0, cr_gd_e g1, cr_gd_e g2, cr_gd_e g3, cr_gd_e g4, e1, cr_b2_some, cr_gd_e g1, cr_gd_e g2, cr_gd_e g3, cr_gd_e g4, e2, cr_b2_some, if_pos rfl]
    exact ⟨V2, rfl, hV2⟩
  rw [if_neg h0]
  by_cases h1 : w = (1 : Int32)
  · obtain ⟨r, V1, V2, e1, e2, hV2⟩ := cr_m_draw hI (xs (nI q + (1 : Int32)).toNatClampNeg) (xs (nI q + (2 : Int32)).toNatClampNeg) (xs (nI q + (3 : Int32)).toNatClampNeg)
    rw [if_pos h1, cr_gd_e g1, cr_gd_e g2, cr_gd_e g3, e1, cr_b2_some, cr_gd_e g1, cr_gd_e g2, cr_gd_e g3, e2, cr_b2_some, if_pos rfl]
    exact ⟨V2, rfl, hV2⟩
  rw [if_neg h1]
  by_cases h2 : w = (2 : Int32)
  · obtain ⟨r, V1, V2, e1, e2, hV2⟩ := cr_m_move hI (xs (nI q + (1 : Int32)).toNatClampNeg) (xs (nI q + (2 : Int32)).toNatClampNeg) (xs (nI q + (3 : Int32)).toNatClampNeg)
    rw [if_pos h2, cr_gd_e g1, cr_gd_e g2, cr_gd_e g3, e1, cr_b2_some, cr_gd_e g1, cr_gd_e g2, cr_gd_e g3, e2, cr_b2_some, if_pos rfl]
    exact ⟨V2, rfl, hV2⟩
  rw [if_neg h2]
  by_cases h3 : w = (3 : Int32)
  · obtain ⟨r, V1, V2, e1, e2, hV2⟩ := cr_m_clear hI 
    rw [if_pos h3, e1, cr_b2_some, e2, cr_b2_some, if_pos rfl]
    exact ⟨V2, rfl, hV2⟩
  rw [if_neg h3]
  by_cases h4 : w = (4 : Int32)
  · obtain ⟨r, V1, V2, e1, e2, hV2⟩ := cr_m_flick hI (xs (nI q + (1 : Int32)).toNatClampNeg) (xs (nI q + (2 : Int32)).toNatClampNeg) (xs (nI q + (3 : Int32)).toNatClampNeg)
    rw [if_pos h4, cr_gd_e g1, cr_gd_e g2, cr_gd_e g3, e1, cr_b2_some, cr_gd_e g1, cr_gd_e g2, cr_gd_e g3, e2, cr_b2_some, if_pos rfl]
    exact ⟨V2, rfl, hV2⟩
  rw [if_neg h4]
  by_cases h5 : w = (5 : Int32)
  · obtain ⟨r, V1, V2, e1, e2, hV2⟩ := cr_m_pass hI 
    rw [if_pos h5, e1, cr_b2_some, e2, cr_b2_some, if_pos rfl]
    exact ⟨V2, rfl, hV2⟩
  rw [if_neg h5]
  by_cases h6 : w = (6 : Int32)
  · obtain ⟨r, e1, e2⟩ := cr_q_count hC.2.1 hM.1 (xs (nI q + (1 : Int32)).toNatClampNeg)
    rw [if_pos h6, cr_gd_e g1, e1, cr_bd_some, cr_gd_e g1, e2, cr_bd_some, if_pos rfl]
    exact ⟨V, rfl, hI⟩
  rw [if_neg h6]
  by_cases h7 : w = (7 : Int32)
  · obtain ⟨r, e1, e2⟩ := cr_q_marble hC.1 hC.2.1 hM.1 (xs (nI q + (1 : Int32)).toNatClampNeg) (xs (nI q + (2 : Int32)).toNatClampNeg)
    rw [if_pos h7, cr_gd_e g1, cr_gd_e g2, e1, cr_bd_some, cr_gd_e g1, cr_gd_e g2, e2, cr_bd_some, if_pos rfl]
    exact ⟨V, rfl, hI⟩
  rw [if_neg h7]
  by_cases h8 : w = (8 : Int32)
  · obtain ⟨r, e1, e2⟩ := cr_q_ring hC.1 hC.2.1 hM.1 (xs (nI q + (1 : Int32)).toNatClampNeg) (xs (nI q + (2 : Int32)).toNatClampNeg)
    rw [if_pos h8, cr_gd_e g1, cr_gd_e g2, e1, cr_bd_some, cr_gd_e g1, cr_gd_e g2, e2, cr_bd_some, if_pos rfl]
    exact ⟨V, rfl, hI⟩
  rw [if_neg h8]
  by_cases h9 : w = (9 : Int32)
  · obtain ⟨r, e1, e2⟩ := cr_q_at hC.1 hC.2.1 hM.1 (xs (nI q + (1 : Int32)).toNatClampNeg) (xs (nI q + (2 : Int32)).toNatClampNeg)
    rw [if_pos h9, cr_gd_e g1, cr_gd_e g2, e1, cr_bd_some, cr_gd_e g1, cr_gd_e g2, e2, cr_bd_some, if_pos rfl]
    exact ⟨V, rfl, hI⟩
  rw [if_neg h9]
  by_cases h10 : w = (10 : Int32)
  · obtain ⟨r, e1, e2⟩ := cr_q_score hC.1 hC.2.1 hM.1 (xs (nI q + (1 : Int32)).toNatClampNeg)
    rw [if_pos h10, cr_gd_e g1, e1, cr_bd_some, cr_gd_e g1, e2, cr_bd_some, if_pos rfl]
    exact ⟨V, rfl, hI⟩
  rw [if_neg h10]
  by_cases h11 : w = (11 : Int32)
  · obtain ⟨r, e1, e2⟩ := cr_q_leader hC.1 hC.2.1 hM.1 
    rw [if_pos h11, e1, cr_bd_some, e2, cr_bd_some, if_pos rfl]
    exact ⟨V, rfl, hI⟩
  rw [if_neg h11]
  by_cases h12 : w = (12 : Int32)
  · obtain ⟨r, V1, V2, e1, e2, hV2⟩ := cr_m_iff hI (xs (nI q + (1 : Int32)).toNatClampNeg) (xs (nI q + (2 : Int32)).toNatClampNeg) (xs (nI q + (3 : Int32)).toNatClampNeg) (xs (nI q + (4 : Int32)).toNatClampNeg)
    rw [if_pos h12, cr_gd_e g1, cr_gd_e g2, cr_gd_e g3, cr_gd_e g4, e1, cr_b2_some, cr_gd_e g1, cr_gd_e g2, cr_gd_e g3, cr_gd_e g4, e2, cr_b2_some, if_pos rfl]
    exact ⟨V2, rfl, hV2⟩
  rw [if_neg h12]
  by_cases h13 : w = (13 : Int32)
  · obtain ⟨r, V1, V2, e1, e2, hV2⟩ := cr_m_best hI (xs (nI q + (1 : Int32)).toNatClampNeg)
    rw [if_pos h13, cr_gd_e g1, e1, cr_b2_some, cr_gd_e g1, e2, cr_b2_some, if_pos rfl]
    exact ⟨V2, rfl, hV2⟩
  rw [if_neg h13]
  by_cases h14 : w = (14 : Int32)
  · obtain ⟨r, e1, e2⟩ := cr_q_way hC.1 hC.2.1 hM.1 hM.2.2.2.2.2 (xs (nI q + (1 : Int32)).toNatClampNeg)
    rw [if_pos h14, cr_gd_e g1, e1, cr_bd_some, cr_gd_e g1, e2, cr_bd_some, if_pos rfl]
    exact ⟨V, rfl, hI⟩
  rw [if_neg h14]
  by_cases h15 : w = (15 : Int32)
  · obtain ⟨r, V1, V2, e1, e2, hV2⟩ := cr_m_type hI (xs (nI q + (1 : Int32)).toNatClampNeg)
    rw [if_pos h15, cr_gd_e g1, e1, cr_b2_some, cr_gd_e g1, e2, cr_b2_some, if_pos rfl]
    exact ⟨V2, rfl, hV2⟩
  rw [if_neg h15]
  by_cases h16 : w = (16 : Int32)
  · obtain ⟨r, V1, V2, e1, e2, hV2⟩ := cr_m_ctext hI 
    rw [if_pos h16, e1, cr_b2_some, e2, cr_b2_some, if_pos rfl]
    exact ⟨V2, rfl, hV2⟩
  rw [if_neg h16]
  by_cases h17 : w = (17 : Int32)
  · obtain ⟨r, V1, V2, e1, e2, hV2⟩ := cr_m_syn hI 
    rw [if_pos h17, e1, cr_b2_some, e2, cr_b2_some, if_pos rfl]
    exact ⟨V2, rfl, hV2⟩
  rw [if_neg h17]
  by_cases h18 : w = (18 : Int32)
  · obtain ⟨r, V1, V2, e1, e2, hV2⟩ := cr_m_items hI 
    rw [if_pos h18, e1, cr_b2_some, e2, cr_b2_some, if_pos rfl]
    exact ⟨V2, rfl, hV2⟩
  rw [if_neg h18]
  by_cases h19 : w = (19 : Int32)
  · obtain ⟨r, V1, V2, e1, e2, hV2⟩ := cr_m_undo hI 
    rw [if_pos h19, e1, cr_b2_some, e2, cr_b2_some, if_pos rfl]
    exact ⟨V2, rfl, hV2⟩
  rw [if_neg h19]
  by_cases h20 : w = (20 : Int32)
  · obtain ⟨r, e1, e2⟩ := cr_q_digest hC.1 hC.2.1 hM.1 hM.2.2.2.2.2 
    rw [if_pos h20, e1, cr_bd_some, e2, cr_bd_some, if_pos (cr_cmp0 r)]
    exact ⟨V, rfl, hI⟩
  rw [if_neg h20]
  exact ⟨V, rfl, hI⟩
theorem cr_walk {nL : Nat} {xs : Nat → Int32} (hnL : nL ≤ 2560) : ∀ (fuel q : Nat) (V : cr_Hp), cr_I V → nL - q < fuel → q ≤ nL → ∃ V', cr_it (fun (q : Int32 × cr_Hp) => f_L_law_l18 nL xs q.1 q.2) fuel (nI q, V) = some V'
  | 0, q, V, _, hf, _ => by omega
  | fuel + 1, q, V, hI, hf, hq => by
    by_cases h : q + 5 ≤ nL
    · obtain ⟨V1, e, h1⟩ := cr_step (xs := xs) hnL h hI
      obtain ⟨V2, e2⟩ := cr_walk (xs := xs) hnL fuel (q + 5) V1 h1 (by omega) h
      exact ⟨V2, (cr_it_l (f := fun (q : Int32 × cr_Hp) => f_L_law_l18 nL xs q.1 q.2) (s := (nI q, V)) e).trans e2⟩
    · refine ⟨V, cr_it_r (f := fun (q : Int32 × cr_Hp) => f_L_law_l18 nL xs q.1 q.2) (s := (nI q, V)) ?_⟩
      show f_L_law_l18 nL xs (nI q) V = _
      unfold f_L_law_l18
      rw [if_pos]
      show nI nL - nI 5 < nI q
      rw [Int32.lt_iff_toInt_lt, pk_sub_toInt (by omega) (by omega), nI_toInt (by omega)]
      omega
theorem cr_goal_holds : cr_goal := fun nL xs h => cr_walk (xs := xs) h cr_FU 0 cr_V0 cr_I0 (show nL - 0 < 100000 by omega) (by omega)
