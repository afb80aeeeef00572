/-! ifFlicked and bestFlick -/
theorem cr_IC_t {V W : cr_Hp} {b : Nat → Int32} {n k m L : Nat} {H : Nat → Nat → Int32} {T : Nat → Int32} (h : cr_IC V b n k m H L T) (hf : ∀ c, c < 19 ∨ 38 ≤ c → c ≠ 153 → c < 159 → W c = V c) (hN : ∀ j, j < 12 → W (19 + 1 + 2 + j) 0 = nI j) : cr_IC W b n k m H L T :=
  cr_IC_b h h.1 (cr_C_fr h.1.1 h.1.2.1 h.2.1 (fun c c1 c2 => hf c (by omega) (by omega) (by omega))) (fun c c1 c2 c3 => hf c (by omega) (by omega) c2) hN
theorem cr_try {V : cr_Hp} {b : Nat → Int32} {n k m L j d S p : Nat} {H : Nat → Nat → Int32} {T : Nat → Int32} (hI : cr_IC V b n k m H L T) (hj : j < n) (hd : d < 8) (hS : S ≤ 40) (hp : p < 3) (ho : b (8 + 5 * j + 3) = nI p) :
    ∃ m1 dx dy S' h w ht b1 W, sp_E n k (j, cr_sx d, cr_sy d, S, 0, 0, fun _ => false, b) (m1, dx, dy, S', h, w, ht, b1) ∧ sp_K n k m1 dx dy S' h b1 ∧ f_X7_tryFlick (nI j) (nI d) (nI S) V = some W ∧ cr_IC W b n k m H L T ∧ W 153 0 = (sp_tk k (nI p) (sp_ra b k) ht b1 n).2.1 ∧ W 153 1 = (sp_tk k (nI p) (sp_ra b k) ht b1 n).2.2.1 ∧ W 153 2 = nI h ∧ W 153 3 = nI m1 ∧ W 153 4 = b1 (8 + 5 * m1) ∧ W 153 5 = b1 (8 + 5 * m1 + 1) ∧ ∀ c, 155 ≤ c → W c = V c := by
  have hB := hI.1
  obtain ⟨V1, e1, hC1, f1⟩ := cr_copy (a := 19) hB.1 hB.2.1 hI.2.1 (by omega) (by omega) (hI.2.2.1 19 (by omega))
  obtain ⟨m1, dx, dy, S', h, w, ht, b1, W, zE, zK, e2, hC2, x0, x1, x2, x3, x4, x5, f2⟩ := cr_play hB hC1 hj hd hS hp ho
  refine ⟨m1, dx, dy, S', h, w, ht, b1, W, zE, zK, ?_, ?_, x0, x1, x2, x3, x4, x5, fun c hc => by rw [f2 c (by omega) (by omega), f1 c (by omega)]⟩
  · unfold f_X7_tryFlick
    rw [e1, cr_bd_some, e2, cr_bd_some]
  · exact cr_IC_t hI (fun c c1 c2 _ => by rw [f2 c c1 c2, f1 c c1]) hC2.2.2.1
theorem cr_keep {V : cr_Hp} {b : Nat → Int32} (hV : V 160 = b) : ∃ W, f_X8_copies 160 161 (0 : Int32) (0 : Int32) V = some W ∧ (∀ t, t < 80 → W 161 t = b t) ∧ ∀ c, c ≠ 161 → W c = V c := by
  obtain ⟨W, e, w1, w2, -⟩ := cr_copies (A := 160) (B := 161) (f := 0) (t := 0) (V := V) (by decide) (by decide) (by decide) (by decide) (by decide)
  refine ⟨W, e, fun t ht => ?_, w1⟩
  have h1 := w2 t ht
  rw [Nat.zero_add, hV] at h1
  exact h1
theorem cr_back {V : cr_Hp} {b b' : Nat → Int32} {n k n' k' : Nat} (hB : cr_B b n k) (hB' : cr_B b' n' k') (hV : V 160 = b') (hk : ∀ t, t < 80 → V 161 t = b t) : ∃ W, f_X8_copies 161 160 (0 : Int32) (0 : Int32) V = some W ∧ W 160 = b ∧ ∀ c, c ≠ 160 → W c = V c := by
  obtain ⟨W, e, w1, w2, w3⟩ := cr_copies (A := 161) (B := 160) (f := 0) (t := 0) (V := V) (by decide) (by decide) (by decide) (by decide) (by decide)
  refine ⟨W, e, ?_, w1⟩
  funext t
  rcases Nat.lt_or_ge t 80 with ht | ht
  · have h1 := w2 t ht
    rw [Nat.zero_add, hk t ht] at h1
    exact h1
  · rw [w3 t (by omega), hV, hB'.2.2.2.2.2.2.2.2 t ht, hB.2.2.2.2.2.2.2.2 t ht]
theorem cr_m_iff {V : cr_Hp} (h : cr_I V) (x d s q : Int32) : ∃ r V1 V2, f_X7_ifFlicked x d s q V = some (r, V1) ∧ f_X8_ifFlicked x d s q V1 = some (r, V2) ∧ cr_I V2 := by
  obtain ⟨b, n, k, m, H, L, T, hI, hM⟩ := h
  have same : cr_I V := ⟨b, n, k, m, H, L, T, hI, hM⟩
  have hB := hI.1
  have hC := hI.2.1
  have hn := hB.1
  have hk := hB.2.1
  unfold f_X7_ifFlicked f_X8_ifFlicked
  rcases cr_any_lt x (n := n) (by omega) with h | ⟨j, hj, rfl⟩
  · refine ⟨-1001, V, V, ?_, ?_, same⟩
    · rw [cr_find_n hB hC h, cr_bd_some, cr_on_0]
    · rw [cr_isM_n hB hM.1 h, cr_bd_some, if_pos (by decide)]
  · have hma := cr_ms_ma (cr_pg_ms hC.1) (show j < 12 by omega)
    rw [cr_find_s hB hC hj, cr_bd_some, cr_on_1, cr_gd_e hma]
    rcases cr_fl_args d s with ⟨h1, h2⟩ | ⟨D, S, hD, hS1, hS, rfl, rfl, h1, h2, h3⟩
    · refine ⟨-1002, V, V, ?_, ?_, same⟩
      · rcases h1 with h1 | ⟨h1, h3⟩
        · rw [h1, cr_bd_some, if_pos (by decide)]
        · rw [h1, cr_bd_some, if_neg (by decide), h3, cr_bd_some, if_pos (by decide)]
      · rw [cr_isM_s hB hM.1 hj, cr_bd_some, if_neg (by decide), h2, cr_bd_some, if_pos (by decide)]
    · rw [h1, cr_bd_some, if_neg (by decide), h2, cr_bd_some, if_neg (by decide)]
      rcases cr_any_lt q (n := 5) (by decide) with hq | ⟨c, hc, rfl⟩
      · refine ⟨-1002, V, V, ?_, ?_, same⟩
        · rcases hq with hq | hq
          · rw [if_pos hq]
          · by_cases h0 : q < 0
            · rw [if_pos h0]
            · rw [if_neg h0, cr_L5, if_neg (fun h => cr_nlt.mpr hq h)]
        · rw [cr_isM_s hB hM.1 hj, cr_bd_some, if_neg (by decide), h3, cr_bd_some, if_neg (by decide), cr_win cr_L4 (by decide) hq, cr_bd_some, if_pos (by decide)]
      · have h4 : f_X8_within (nI c) (0 : Int32) (4 : Int32) = some 1 := cr_winY cr_L4 (by decide) (Nat.le_of_lt_succ hc)
        rw [if_neg (cr_nn (show c < 2 ^ 31 by omega)), cr_L5, if_pos (nI_lt hc (by decide))]
        rcases hC.2.2.2.2.1 j hj with ⟨l, l6, -⟩ | ⟨l, l6, -⟩
        · obtain ⟨p, hp, ep⟩ := cr_owner hB hj
          obtain ⟨m1, dx1, dy1, S1, h1', w1, ht1, b1, W1, zE, zK, e1, hI1, x0, x1, x2, x3, x4, x5, hf1⟩ := cr_try hI hj hD hS hp ep
          have hM1 := cr_IM_fr hM (W := W1) (fun c hc => hf1 c (by omega))
          obtain ⟨W2, e2, y161, hf2⟩ := cr_keep hM1.1
          have hM2 : cr_IM W2 b m H L T := cr_IM_c hM1 (fun c _ _ _ c3 _ => hf2 c c3) (fun t _ => by rw [hf2 _ (by omega)]) (by rw [hf2 _ (by omega)]; exact hM1.1)
          obtain ⟨m2, dx2, dy2, S2, h2', w2, ht2, b2, W3, zE2, e3, y160, y4, y13, y14, y10, y11, y12, hf3, h9⟩ := cr_mflicks hB hM2.1 hM2.2.2.2.2.2 hj hD hS1 hS hp
          have det := sp_E_det zE2 zE
          injection det with d1 det
          injection det with d2 det
          injection det with d3 det
          injection det with d4 det
          injection det with d5 det
          injection det with d6 det
          injection det with d7 d8
          subst d1 d5 d6 d7 d8
          obtain ⟨W4, e4, z160, hf4⟩ := cr_back hB (cr_B_af (b0 := b) (h := h2') (w := w2) (ht := ht2) zK.1 hp) y160 (fun t ht => by rw [hf3 161 (by omega) (by omega) (by omega)]; exact y161 t ht)
          have hM4 : cr_IM W4 b m H L T := cr_IM_c hM2 (fun c _ c1 c2 _ c4 => by rw [hf4 c c2]; exact hf3 c c1 c2 c4) (fun t ht => by rw [hf4 _ (by omega)]; exact h9 t ht) z160
          have res : cr_I W4 := ⟨b, n, k, m, H, L, T, cr_IC_fr hI1 (fun c hc => by rw [hf4 c (by omega), hf3 c (by omega) (by omega) (by omega), hf2 c (by omega)]), hM4⟩
          have g4 : W3 160 4 - W3 161 4 = nI h2' := by
            rw [y4, hf3 161 (by omega) (by omega) (by omega), y161 4 (by omega), Int32.add_comm, Int32.add_sub_cancel]
          have g9 : W4 159 = W3 159 := hf4 159 (by omega)
          have el : (if (V (0 + 1 + 2 + j) 6) = 0 then (some ((-1003 : Int32), V)) else cr_bd (f_X7_tryFlick (nI j) (nI D) (nI S) V) (fun (V64 : cr_Hp) => if nI c = (0 : Int32) then (some ((V64 153 0), V64)) else (if nI c = (1 : Int32) then (some ((V64 153 1), V64)) else (if nI c = (2 : Int32) then (some ((V64 153 2), V64)) else (if nI c = (3 : Int32) then (some ((V64 153 3), V64)) else (some ((((100 : Int32) * (V64 153 4)) + (V64 153 5)), V64))))))) = (if nI c = (0 : Int32) then (some ((W1 153 0), W1)) else (if nI c = (1 : Int32) then (some ((W1 153 1), W1)) else (if nI c = (2 : Int32) then (some ((W1 153 2), W1)) else (if nI c = (3 : Int32) then (some ((W1 153 3), W1)) else (some ((((100 : Int32) * (W1 153 4)) + (W1 153 5)), W1)))))) := by
            rw [l6, if_neg (by decide), e1, cr_bd_some]
          rw [el]
          suffices hz : ∃ r, (if nI c = (0 : Int32) then (some ((W1 153 0), W1)) else (if nI c = (1 : Int32) then (some ((W1 153 1), W1)) else (if nI c = (2 : Int32) then (some ((W1 153 2), W1)) else (if nI c = (3 : Int32) then (some ((W1 153 3), W1)) else (some ((((100 : Int32) * (W1 153 4)) + (W1 153 5)), W1)))))) = some (r, W1) ∧ (if nI c = 0 then (some ((W4 159 13), W4)) else (if nI c = (1 : Int32) then (some ((W4 159 14), W4)) else (if nI c = (2 : Int32) then (some (nI h2', W4)) else (if nI c = (3 : Int32) then (some ((W4 159 10), W4)) else (some ((((100 : Int32) * (W4 159 11)) + (W4 159 12)), W4)))))) = some (r, W4) by
            obtain ⟨r, z1, z2⟩ := hz
            refine ⟨r, W1, W4, z1, ?_, res⟩
            rw [cr_isM_s hB hM1.1 hj, cr_bd_some, if_neg (by decide), h3, cr_bd_some, if_neg (by decide), h4, cr_bd_some, if_neg (by decide), cr_mthere (by omega) hM1.1 l, cr_bd_some, if_neg (by decide), e2, cr_bd_some, cr_mp3 (by omega), cr_bd_some, hM2.1, ep, e3, cr_bd_some, cr_G4, cr_G4, cr_T4, g4, cr_lt_e, e4, cr_bd_some]
            exact z2
          rw [g9, x0, x1, x2, x3, x4, x5, y13, y14, y10, y11, y12]
          have hc2 : c = 0 ∨ c = 1 ∨ c = 2 ∨ c = 3 ∨ c = 4 := by omega
          rcases hc2 with rfl | rfl | rfl | rfl | rfl
          · rw [if_pos (by decide), if_pos (by decide)]; exact ⟨_, rfl, rfl⟩
          · rw [if_neg (by decide), if_pos (by decide), if_neg (by decide), if_pos (by decide)]; exact ⟨_, rfl, rfl⟩
          · rw [if_neg (by decide), if_neg (by decide), if_pos (by decide), if_neg (by decide), if_neg (by decide), if_pos (by decide)]; exact ⟨_, rfl, rfl⟩
          · rw [if_neg (by decide), if_neg (by decide), if_neg (by decide), if_pos (by decide), if_neg (by decide), if_neg (by decide), if_neg (by decide), if_pos (by decide)]; exact ⟨_, rfl, rfl⟩
          · rw [if_neg (by decide), if_neg (by decide), if_neg (by decide), if_neg (by decide), if_neg (by decide), if_neg (by decide), if_neg (by decide), if_neg (by decide)]; exact ⟨_, rfl, rfl⟩
        · refine ⟨-1003, V, V, ?_, ?_, same⟩
          · rw [l6, if_pos (by decide)]
          · rw [cr_isM_s hB hM.1 hj, cr_bd_some, if_neg (by decide), h3, cr_bd_some, if_neg (by decide), h4, cr_bd_some, if_neg (by decide), cr_mthere0 (by omega) hM.1 l, cr_bd_some, if_pos (by decide)]
