/-! numbers of the game; clear, pass, the text -/
theorem cr_C_set {a c : Nat} {V : cr_Hp} {b : Nat → Int32} {n k : Nat} {v : Int32} (hn : n ≤ 12) (hC : cr_C a V b n k) (h8 : c < 8) : cr_C a (cr_pt V a (c + 2) v) (upd b c v) n k := by
  obtain ⟨c1, c2, c3, c4, c5, c6, c7, c8⟩ := hC
  refine ⟨c1, fun t ht => ?_, fun i hi => ?_, fun i hi => ?_, fun i hi => ?_, fun i hi hi2 => ?_, fun r hr => ?_, fun r hr hr4 => ?_⟩
  · rw [cr_pv, cr_uv]
    by_cases h : t = c
    · rw [if_pos h, if_pos ⟨rfl, by omega⟩]
    · rw [if_neg h, if_neg (by omega)]; exact c2 t ht
  · rw [cr_pt_ne (by omega)]; exact c3 i hi
  · rw [cr_pt_ne (by omega), cr_uv, if_neg (by omega), cr_uv, if_neg (by omega), cr_uv, if_neg (by omega), cr_uv, if_neg (by omega)]; exact c4 i hi
  · rw [cr_lie, cr_pt_ne (by omega), cr_uv, if_neg (by omega)]; exact c5 i hi
  · rw [cr_pt_ne (by omega)]; exact c6 i hi hi2
  · rw [cr_pt_ne (by omega), cr_uv, if_neg (by omega), cr_uv, if_neg (by omega), cr_uv, if_neg (by omega)]; exact c7 r hr
  · rw [cr_pt_ne (by omega)]; exact c8 r hr hr4
theorem cr_B_u {b : Nat → Int32} {n k c : Nat} {v : Int32} (hB : cr_B b n k) (h2 : 2 ≤ c) (h8 : c < 8) (hq : c = 2 → ∃ q, q < 3 ∧ v = nI q) : cr_B (upd b c v) n k := by
  obtain ⟨hn, hk, b0, b1, b2, bm, br, bd, bz⟩ := hB
  refine ⟨hn, hk, by rw [cr_uv, if_neg (by omega)]; exact b0, by rw [cr_uv, if_neg (by omega)]; exact b1, ?_, fun j hj => ?_, fun r hr => ?_, fun i j hi hj hij li lj => ?_, fun i hi => by rw [cr_uv, if_neg (by omega)]; exact bz i hi⟩
  · rw [cr_uv]
    by_cases h : 2 = c
    · rw [if_pos h]; exact hq h.symm
    · rw [if_neg h]; exact b2
  · rw [cr_uv, if_neg (by omega), cr_uv, if_neg (by omega), cr_uv, if_neg (by omega), cr_uv, if_neg (by omega), cr_uv, if_neg (by omega)]; exact bm j hj
  · rw [cr_uv, if_neg (by omega), cr_uv, if_neg (by omega), cr_uv, if_neg (by omega)]; exact br r hr
  · have li : cr_lie b i := by rw [cr_lie, cr_uv, if_neg (by omega)] at li; exact li
    have lj : cr_lie b j := by rw [cr_lie, cr_uv, if_neg (by omega)] at lj; exact lj
    rw [cr_uv, if_neg (by omega), cr_uv, if_neg (by omega), cr_uv, if_neg (by omega), cr_uv, if_neg (by omega)]
    exact bd i j hi hj hij li lj
def sp_nx (b : Nat → Int32) : Nat → Int32 := upd b 2 ((b 2 + (1 : Int32)) - (b 2 + (1 : Int32)) / (3 : Int32) * (3 : Int32))
theorem cr_nx_v {q : Nat} (h : q < 3) : (nI q + (1 : Int32)) - (nI q + (1 : Int32)) / (3 : Int32) * (3 : Int32) = nI ((q + 1) % 3) := by
  rw [cr_1, cr_L3, pk_rem (by omega) (by decide) (by decide)]
theorem cr_B_nx {b : Nat → Int32} {n k : Nat} (hB : cr_B b n k) : cr_B (sp_nx b) n k := by
  obtain ⟨q, hq, e⟩ := hB.2.2.2.2.1
  exact cr_B_u hB (by omega) (by omega) (fun _ => ⟨(q + 1) % 3, by omega, by rw [e]; exact cr_nx_v hq⟩)
theorem cr_next {a : Nat} {V : cr_Hp} {b : Nat → Int32} {n k : Nat} (hB : cr_B b n k) (hC : cr_C a V b n k) : ∃ W, f_X3_nextPlayer a V = some W ∧ cr_C a W (sp_nx b) n k ∧ ∀ c, c ≠ a → W c = V c := by
  obtain ⟨q, hq, e⟩ := hB.2.2.2.2.1
  have v4 : V a 4 = nI q := (hC.2.1 2 (by decide)).trans e
  unfold f_X3_nextPlayer sp_nx
  rw [v4, e, cr_nx_v hq, cr_lt_e, cr_lt_e, cr_1]
  by_cases h : q = 2
  · subst h
    rw [if_pos (by decide)]
    exact ⟨_, rfl, cr_C_set (c := 2) (v := 0) hB.1 hC (by omega), fun c hc => cr_pt_ne hc⟩
  · rw [cr_L2, if_neg (nI_ge (by omega) (by decide)), show (q + 1) % 3 = q + 1 by omega]
    exact ⟨_, rfl, cr_C_set (c := 2) hB.1 hC (by omega), fun c hc => cr_pt_ne hc⟩
theorem cr_mnext {V : cr_Hp} {b : Nat → Int32} (hV : V 160 = b) : ∃ W, f_X8_goesOn V = some W ∧ W 160 = sp_nx b ∧ ∀ c, c ≠ 160 → W c = V c := by
  unfold f_X8_goesOn
  rw [cr_G2, cr_G2, cr_lt_e, cr_T2]
  refine ⟨_, rfl, ?_, fun c hc => cr_pt_ne hc⟩
  rw [cr_pt_eq, hV]; rfl
theorem cr_m_pass {V : cr_Hp} (h : cr_I V) : ∃ r V1 V2, f_X7_pass V = some (r, V1) ∧ f_X8_pass V1 = some (r, V2) ∧ cr_I V2 := by
  obtain ⟨b, n, k, m, H, L, T, hI, hM⟩ := h
  obtain ⟨W, e, hW, hf⟩ := cr_save hI
  obtain ⟨W1, e1, hC1, hf1⟩ := cr_next hW.1 hW.2.1
  have hM1 := cr_IM_fr hM (W := W1) (fun c hc => by rw [hf1 c (by omega), hf c (by omega)])
  obtain ⟨W2, e2, hM2, hf2⟩ := cr_record (cr_IM_m hI) hM1
  obtain ⟨W3, e3, h160, hf3⟩ := cr_mnext hM2.1
  refine ⟨sp_nx b 2, W1, W3, ?_, ?_, ⟨_, _, _, _, _, _, _, cr_IC_fr (cr_IC_b hW (cr_B_nx hI.1) hC1 (fun c c1 _ _ => hf1 c (by omega)) (fun j hj => by rw [hf1 _ (by omega)]; exact hW.2.2.1 19 (by omega) j hj)) (fun c hc => by rw [hf3 c (by omega), hf2 c (by omega) (by omega)]), cr_IM_b hM2 (fun c c1 _ _ _ => hf3 c c1) h160⟩⟩
  · unfold f_X7_pass
    rw [e, cr_bd_some, e1, cr_bd_some, hC1.2.1 2 (by decide)]
  · unfold f_X8_pass
    rw [e2, cr_bd_some, e3, cr_bd_some, cr_G2, cr_T2, h160]
/-- clear -/
theorem cr_B_0 : cr_B (fun _ => 0) 0 0 := ⟨by omega, by omega, rfl, rfl, ⟨0, by omega, rfl⟩, fun j hj => absurd hj (by omega), fun j hj => absurd hj (by omega), fun i j hi => absurd hi (by omega), fun _ _ => rfl⟩
theorem cr_wipe {V : cr_Hp} (hN : ∀ j, j < 12 → V (0 + 1 + 2 + j) 0 = nI j) : ∃ W, f_X3_wipe 0 V = some W ∧ cr_C 0 W (fun _ => 0) 0 0 ∧ ∀ c, 19 ≤ c → W c = V c := by
  obtain ⟨V1, e1, w1, w2⟩ := cr_invH (F := fun x W => f_X3_wipe_l10 0 x W) (V := V) (fun i W => (∀ c, 19 ≤ c → W c = V c) ∧ ∀ j, j < 12 → W (0 + 1 + 2 + j) 0 = nI j ∧ (j < i → W (0 + 1 + 2 + j) 6 = 0 ∧ W (0 + 1 + 2 + j) 5 = -1)) (fun W => (∀ c, 19 ≤ c → W c = V c) ∧ ∀ j, j < 12 → W (0 + 1 + 2 + j) 0 = nI j ∧ W (0 + 1 + 2 + j) 6 = 0 ∧ W (0 + 1 + 2 + j) 5 = -1) 12
    ⟨fun _ _ => rfl, fun j hj => ⟨hN j hj, fun h => absurd h (by omega)⟩⟩ (fun i hi W ⟨w1, w2⟩ => by
      unfold f_X3_wipe_l10
      rw [cr_L12, if_neg (nI_ge hi (by decide)), cr_gd_e (cr_ix_nI hi (by decide)), nI_clamp (by omega), cr_1, cr_lt_e, cr_lt_e]
      refine ⟨_, rfl, fun c hc => by rw [cr_pt_ne (by omega), cr_pt_ne (by omega)]; exact w1 c hc, fun j hj => ⟨?_, fun h => ?_⟩⟩
      · rw [cr_pv, if_neg (by omega), cr_pv, if_neg (by omega)]; exact (w2 j hj).1
      · by_cases hji : j = i
        · subst hji
          exact ⟨by rw [cr_pv, if_neg (by omega), cr_pv, if_pos (by omega)], by rw [cr_pv, if_pos (by omega)]⟩
        · rw [cr_pt_ne (by omega), cr_pt_ne (by omega)]
          exact (w2 j hj).2 (by omega))
    (fun W hW => ⟨W, by
      unfold f_X3_wipe_l10
      rw [cr_L12, if_pos (nI_le (Nat.le_refl 12) (by decide))], hW.1, fun j hj => ⟨(hW.2 j hj).1, (hW.2 j hj).2 hj⟩⟩) (by decide)
  obtain ⟨V2, e2, x1, x2, x3⟩ := cr_invH (F := fun x W => f_X3_wipe_l53 0 x W) (V := V1) (fun i W => (∀ c, 19 ≤ c → W c = V c) ∧ (∀ j, j < 12 → W (0 + 1 + 2 + j) 0 = nI j ∧ W (0 + 1 + 2 + j) 6 = 0 ∧ W (0 + 1 + 2 + j) 5 = -1) ∧ ∀ r, r < i → W (0 + 2 + 13 + r) 2 = 0) (fun W => (∀ c, 19 ≤ c → W c = V c) ∧ (∀ j, j < 12 → W (0 + 1 + 2 + j) 0 = nI j ∧ W (0 + 1 + 2 + j) 6 = 0 ∧ W (0 + 1 + 2 + j) 5 = -1) ∧ ∀ r, r < 4 → W (0 + 2 + 13 + r) 2 = 0) 4
    ⟨w1, w2, fun r hr => absurd hr (by omega)⟩ (fun i hi W ⟨w1, w2, w3⟩ => by
      unfold f_X3_wipe_l53
      rw [cr_L4, if_neg (nI_ge hi (by decide)), cr_gd_e (cr_ix_nI hi (by decide)), nI_clamp (by omega), cr_1, cr_lt_e]
      refine ⟨_, rfl, fun c hc => by rw [cr_pt_ne (by omega)]; exact w1 c hc, fun j hj => by rw [cr_pt_ne (by omega)]; exact w2 j hj, fun r hr => ?_⟩
      by_cases hji : r = i
      · subst hji
        rw [cr_pv, if_pos (by omega)]
      · rw [cr_pt_ne (by omega)]
        exact w3 r (by omega))
    (fun W hW => ⟨W, by
      unfold f_X3_wipe_l53
      rw [cr_L4, if_pos (nI_le (Nat.le_refl 4) (by decide))], hW⟩) (by decide)
  unfold f_X3_wipe
  rw [e1, cr_bd_some, e2, cr_bd_some]
  simp only [cr_lt_e]
  refine ⟨_, rfl, ⟨by omega, fun c hc => ?_, fun j hj => ?_, fun j hj => absurd hj (by omega), fun j hj => absurd hj (by omega), fun j _ hj => ?_, fun j hj => absurd hj (by omega), fun r _ hr => ?_⟩, fun c hc => ?_⟩
  · have ht : c = 0 ∨ c = 1 ∨ c = 2 ∨ c = 3 ∨ c = 4 ∨ c = 5 ∨ c = 6 ∨ c = 7 := by omega
    rcases ht with rfl | rfl | rfl | rfl | rfl | rfl | rfl | rfl <;> simp [cr_pv]
  · simp only [cr_pt_ne (show 0 + 1 + 2 + j ≠ 0 by omega)]
    exact (x2 j hj).1
  · simp only [cr_pt_ne (show 0 + 1 + 2 + j ≠ 0 by omega)]
    exact (x2 j hj).2
  · simp only [cr_pt_ne (show 0 + 2 + 13 + r ≠ 0 by omega)]
    exact x3 r hr
  · simp only [cr_pt_ne (show c ≠ 0 by omega)]
    exact x1 c hc
theorem cr_m_clear {V : cr_Hp} (h : cr_I V) : ∃ r V1 V2, f_X7_clear V = some (r, V1) ∧ f_X8_clear V1 = some (r, V2) ∧ cr_I V2 := by
  obtain ⟨b, n, k, m, H, L, T, hI, hM⟩ := h
  obtain ⟨W, e, hW, hf⟩ := cr_save hI
  obtain ⟨W1, e1, hC1, hf1⟩ := cr_wipe hW.2.1.2.2.1
  have hM1 := cr_IM_fr hM (W := W1) (fun c hc => by rw [hf1 c (by omega), hf c (by omega)])
  obtain ⟨W2, e2, hM2, hf2⟩ := cr_record (cr_IM_m hI) hM1
  have hb0 : b 0 = nI n := hI.1.2.2.1
  obtain ⟨W3, e3, x1, x2⟩ := cr_invH (F := fun x W => f_X8_clear_l13 (nI n) x W) (V := W2) (fun i W => (∀ c, c ≠ 160 → W c = W2 c) ∧ ∀ t, t < i ∨ 80 ≤ t → W 160 t = 0) (fun W => (∀ c, c ≠ 160 → W c = W2 c) ∧ ∀ t, t < 80 ∨ 80 ≤ t → W 160 t = 0) 80
    ⟨fun _ _ => rfl, fun t ht => by rw [hM2.1]; exact hI.1.2.2.2.2.2.2.2.2 t (by omega)⟩ (fun i hi W ⟨w1, w2⟩ => by
      unfold f_X8_clear_l13
      rw [cr_L80, if_neg (nI_ge hi (by decide)), cr_gd_e (cr_ix_nI hi (by decide)), nI_clamp (by omega), cr_1, cr_lt_e]
      refine ⟨_, rfl, fun c hc => by rw [cr_pt_ne hc]; exact w1 c hc, fun t ht => ?_⟩
      rw [cr_pv]
      by_cases h : t = i
      · rw [if_pos ⟨rfl, h⟩]
      · rw [if_neg (by omega)]; exact w2 t (by omega))
    (fun W hW => ⟨W, by
      unfold f_X8_clear_l13
      rw [cr_L80, if_pos (nI_le (Nat.le_refl 80) (by decide))], hW⟩) (by decide)
  have h160 : W3 160 = fun _ => 0 := by funext t; exact x2 t (by omega)
  refine ⟨nI n, W1, W3, ?_, ?_, ⟨_, _, _, _, _, _, _, cr_IC_fr (cr_IC_b hW cr_B_0 hC1 (fun c c1 _ _ => hf1 c (by omega)) (fun j hj => by rw [hf1 _ (by omega)]; exact hW.2.2.1 19 (by omega) j hj)) (fun c hc => by rw [x1 c (by omega), hf2 c (by omega) (by omega)]), cr_IM_b hM2 (fun c c1 _ _ _ => x1 c c1) h160⟩⟩
  · unfold f_X7_clear
    rw [hI.2.1.2.1 0 (by decide), hb0, cr_lt_e, e, cr_bd_some, e1, cr_bd_some]
  · unfold f_X8_clear
    rw [e2, cr_bd_some, cr_G0, cr_T0, hM2.1, hb0, cr_lt_e, e3, cr_bd_some]
/-- the text -/
theorem cr_m_ctext {V : cr_Hp} (h : cr_I V) : ∃ r V1 V2, f_X7_clearText V = some (r, V1) ∧ f_X8_clearText V1 = some (r, V2) ∧ cr_I V2 := by
  obtain ⟨b, n, k, m, H, L, T, ⟨hB, hC, hN, hH, hL, hT, hT2⟩, ⟨hV, g3, gH, g5, gT, hS⟩⟩ := h
  unfold f_X7_clearText f_X8_clearText
  rw [hT, cr_lt_e, cr_lt_e]
  refine ⟨nI L, _, _, rfl, by rw [cr_lt_e, cr_lt_e, cr_pt_ne (by omega), g5], ⟨b, n, k, m, H, 0, T, ⟨hB, cr_C_fr hB.1 hB.2.1 hC (fun c c1 c2 => by rw [cr_pt_ne (by omega), cr_pt_ne (by omega)]), fun a ha j hj => by rw [cr_pt_ne (by omega), cr_pt_ne (by omega)]; exact hN a ha j hj, cr_Hi_fr hH (fun c c1 c2 _ => by rw [cr_pt_ne (by omega), cr_pt_ne (by omega)]), ⟨by omega, fun i hi => absurd hi (by omega)⟩, by rw [cr_pt_ne (by omega), cr_pv, if_pos ⟨rfl, rfl⟩]; rfl, fun i hi => absurd hi (by omega)⟩, ⟨by rw [cr_pt_ne (by omega), cr_pt_ne (by omega)]; exact hV, by rw [cr_pv, if_neg (by omega), cr_pt_ne (by omega)]; exact g3, fun i hi t ht => by rw [cr_pt_ne (by omega), cr_pt_ne (by omega)]; exact gH i hi t ht, by rw [cr_pv, if_pos ⟨rfl, rfl⟩]; rfl, fun i hi => absurd hi (by omega), by rw [cr_St, cr_pt_ne (by omega), cr_pt_ne (by omega), cr_pt_ne (by omega), cr_pt_ne (by omega)]; exact hS⟩⟩⟩
theorem cr_vpc : ∀ c : Fin 127, vp_nar .char (((nI c.val).toUInt32 % 65536).toInt32) = nI c.val := by decide +kernel
theorem cr_m_type {V : cr_Hp} (h : cr_I V) (x : Int32) : ∃ r V1 V2, f_X7_type x V = some (r, V1) ∧ f_X8_type x V1 = some (r, V2) ∧ cr_I V2 := by
  obtain ⟨b, n, k, m, H, L, T, ⟨hB, hC, hN, hH, hL, hT, hT2⟩, ⟨hV, g3, gH, g5, gT, hS⟩⟩ := h
  have same : cr_I V := ⟨b, n, k, m, H, L, T, ⟨hB, hC, hN, hH, hL, hT, hT2⟩, ⟨hV, g3, gH, g5, gT, hS⟩⟩
  unfold f_X7_type f_X8_type
  by_cases h1 : x < 33
  · refine ⟨-1002, V, V, ?_, ?_, same⟩
    · rw [if_pos h1]
    · rw [cr_within, if_neg (fun h => h.1 h1), cr_bd_some, if_pos (by decide)]
  · by_cases h2 : x ≤ 126
    · obtain ⟨c, c1, rfl⟩ := nI_of2 (n := 126) (M := 126) (by decide) (show ¬ x < 0 by
        intro h
        apply h1
        rw [Int32.lt_iff_toInt_lt] at h ⊢
        have e0 : (0 : Int32).toInt = 0 := by decide
        have e1 : (33 : Int32).toInt = 33 := by decide
        omega) h2
      have c0 : 33 ≤ c := by
        rcases Nat.lt_or_ge c 33 with h | h
        · exact absurd (show nI c < 33 by rw [cr_L33]; exact nI_lt h (by decide)) h1
        · exact h
      rw [if_neg h1, if_pos h2]
      unfold f_X6_append
      rw [hT, if_neg (cr_nn (by have := hL.1; omega))]
      by_cases hL8 : L = 80
      · refine ⟨-1004, V, V, ?_, ?_, same⟩
        · rw [hL8, if_neg (by decide), cr_b2_some, if_pos (by decide)]
        · rw [cr_within, if_pos ⟨h1, cr_nlt.mpr h2⟩, cr_bd_some, if_neg (by decide), g5, hL8, if_pos (by decide)]
      · have hL0 : L < 80 := by have := hL.1; omega
        rw [cr_L80, if_pos (nI_lt hL0 (by decide)), cr_gd_e (cr_ix_nI hL0 (by decide)), nI_clamp (by omega), cr_lt_e, cr_lt_e, cr_b2_some, if_neg (by decide), cr_vpc ⟨c, by omega⟩]
        have e5 : cr_pt V 158 L (nI c) 157 1 = nI L := by rw [cr_pt_ne (by omega)]; exact hT
        rw [e5, cr_1]
        refine ⟨nI (L + 1), cr_pt (cr_pt V 158 L (nI c)) 157 1 (nI (L + 1)), cr_pt (cr_pt (cr_pt (cr_pt V 158 L (nI c)) 157 1 (nI (L + 1))) 163 L (nI c)) 159 5 (nI (L + 1)), ?_, ?_, ⟨b, n, k, m, H, L + 1, upd T L (nI c), ⟨hB, ?_, ?_, ?_, ?_, ?_, ?_⟩, ⟨?_, ?_, ?_, ?_, ?_, ?_⟩⟩⟩
        · rw [cr_pv, if_pos ⟨rfl, rfl⟩]
        · rw [cr_within, if_pos ⟨h1, cr_nlt.mpr h2⟩, cr_bd_some, if_neg (by decide), cr_pt_ne (by omega), cr_pt_ne (by omega), g5, if_neg (show ¬ nI L = nI 80 from fun h => hL8 ((nI_eq (by omega) (by decide)).mp h)), cr_gd_e (cr_ix_nI hL0 (by decide)), nI_clamp (by omega), cr_lt_e, cr_lt_e, cr_pv, if_pos ⟨rfl, rfl⟩, cr_pt_ne (show 159 ≠ 163 by omega), cr_pt_ne (show 159 ≠ 157 by omega), cr_pt_ne (show 159 ≠ 158 by omega), g5, cr_1]
        · exact cr_C_fr hB.1 hB.2.1 hC (fun c c1 c2 => by rw [cr_pt_ne (by omega), cr_pt_ne (by omega), cr_pt_ne (by omega), cr_pt_ne (by omega)])
        · exact fun a ha j hj => by rw [cr_pt_ne (by omega), cr_pt_ne (by omega), cr_pt_ne (by omega), cr_pt_ne (by omega)]; exact hN a ha j hj
        · exact cr_Hi_fr hH (fun c c1 c2 _ => by rw [cr_pt_ne (by omega), cr_pt_ne (by omega), cr_pt_ne (by omega), cr_pt_ne (by omega)])
        · refine ⟨by omega, fun i hi => ?_⟩
          rw [cr_uv]
          by_cases h : i = L
          · rw [if_pos h]; exact ⟨c, c0, c1, rfl⟩
          · rw [if_neg h]; exact hL.2 i (by omega)
        · rw [cr_pt_ne (by omega), cr_pt_ne (by omega), cr_pv, if_pos ⟨rfl, rfl⟩]
        · intro i hi
          rw [cr_pt_ne (by omega), cr_pt_ne (by omega), cr_pt_ne (by omega), cr_pv, cr_uv]
          by_cases h : i = L
          · rw [if_pos h, if_pos ⟨rfl, h⟩]
          · rw [if_neg h, if_neg (by omega)]; exact hT2 i (by omega)
        · rw [cr_pt_ne (by omega), cr_pt_ne (by omega), cr_pt_ne (by omega), cr_pt_ne (by omega)]; exact hV
        · rw [cr_pv, if_neg (by omega), cr_pt_ne (by omega), cr_pt_ne (by omega), cr_pt_ne (by omega)]; exact g3
        · intro i hi t ht
          rw [cr_pt_ne (by omega), cr_pt_ne (by omega), cr_pt_ne (by omega), cr_pt_ne (by omega)]; exact gH i hi t ht
        · rw [cr_pv, if_pos ⟨rfl, rfl⟩]
        · intro i hi
          rw [cr_pt_ne (by omega), cr_pv, cr_uv, cr_pt_ne (by omega), cr_pt_ne (by omega)]
          by_cases h : i = L
          · rw [if_pos h, if_pos ⟨rfl, h⟩]
          · rw [if_neg h, if_neg (by omega)]; exact gT i (by omega)
        · rw [cr_St, cr_pt_ne (by omega), cr_pt_ne (by omega), cr_pt_ne (by omega), cr_pt_ne (by omega), cr_pt_ne (by omega), cr_pt_ne (by omega), cr_pt_ne (by omega), cr_pt_ne (by omega)]; exact hS
    · refine ⟨-1002, V, V, ?_, ?_, same⟩
      · rw [if_neg h1, if_neg h2]
      · rw [cr_within, if_neg (fun h => h2 (cr_nlt.mp h.2)), cr_bd_some, if_pos (by decide)]
