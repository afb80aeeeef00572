/-! flick and ifFlicked, both sides -/
theorem sp_gw_low {g : Int32} {b : Nat → Int32} {t : Nat} (ht : t < 6 ∨ t = 7) : ∀ r, sp_gw g b r t = b t
  | 0 => rfl
  | r + 1 => by
    unfold sp_gw
    by_cases hc : sp_bit g r ∧ ¬ (15 : Int32) ≤ sp_gw g b r (68 + 3 * r + 2)
    · rw [if_pos hc, cr_uv, if_neg (by omega), cr_uv, if_neg (by omega)]; exact sp_gw_low ht r
    · rw [if_neg hc]; exact sp_gw_low ht r
theorem sp_tk_low {k : Nat} {P : Int32} {ra : Nat → Int32} {ht : Nat → Bool} {b : Nat → Int32} {t : Nat} (h8 : t < 8) : ∀ i, (sp_tk k P ra ht b i).2.2.2 t = b t
  | 0 => rfl
  | i + 1 => by
    unfold sp_tk
    by_cases hc : sp_won k P ra ht (sp_tk k P ra ht b i).2.2.2 i
    · rw [if_pos hc]
      show upd _ _ _ _ = _
      rw [cr_uv, if_neg (by omega)]; exact sp_tk_low h8 i
    · rw [if_neg hc]; exact sp_tk_low h8 i
theorem sp_nu_ov {b : Nat → Int32} {h w c : Int32} : sp_nu b h w c = sp_ov b (b 3 + 1) (b 4 + h) (b 5 + c) (b 7 + w) := by
  have h1 : upd (upd (upd (upd (sp_ov b (b 3) (b 4) (b 5) (b 7)) 3 (b 3 + 1)) 4 (b 4 + h)) 7 (b 7 + w)) 5 (b 5 + c) = sp_ov b (b 3 + 1) (b 4 + h) (b 5 + c) (b 7 + w) := by rw [sp_ov_3, sp_ov_4, sp_ov_7, sp_ov_5]
  rw [sp_ov_id] at h1
  exact h1
theorem cr_mflicks0 {n k j d S p : Nat} {V : cr_Hp} {b : Nat → Int32} (hB : cr_B b n k) (hV : V 160 = b) (hSt : cr_St V) (hj : j < n) (hd : d < 8) (hS1 : 1 ≤ S) (hS : S ≤ 40) (hp : p < 3) :
    ∃ m dx dy S' h w ht b1 W, sp_E n k (j, cr_sx d, cr_sy d, S, 0, 0, fun _ => false, b) (m, dx, dy, S', h, w, ht, b1) ∧ f_X8_flicks (nI p) (nI j) (nI d) (nI S) V = some W ∧ W 160 = sp_af k n (nI p) b h w ht b1 ∧ W 160 4 = b 4 + nI h ∧ W 159 13 = (sp_tk k (nI p) (sp_ra b k) ht b1 n).2.1 ∧ W 159 14 = (sp_tk k (nI p) (sp_ra b k) ht b1 n).2.2.1 ∧ W 159 10 = nI m ∧ W 159 11 = b1 (8 + 5 * m) ∧ W 159 12 = b1 (8 + 5 * m + 1) ∧ (∀ c, c ≠ 159 → c ≠ 160 → c ≠ 166 → W c = V c) ∧ (∀ t, t < 9 → W 159 t = V 159 t) ∧ cr_B (sp_af k n (nI p) b h w ht b1) n k := by
  have hn := hB.1
  have hk := hB.2.1
  obtain ⟨V1, e1, h166, f1⟩ := cr_mahead (x1 := nI p) (x2 := nI j) (x3 := nI d) (x4 := nI S) hB hV
  obtain ⟨m, dx, dy, S', h, w, ht, b1, V2, zE, e2, ⟨r1, ⟨v, v1, v2, v3⟩, r3, r4, r5⟩, zK, x10, x11, x12⟩ := cr_mrolls (V0 := V) (V := V1) hB hj hd hS1 hS (by rw [f1 _ (by omega)]; exact hV) h166 (by rw [cr_St, f1 _ (by omega), f1 _ (by omega)]; exact hSt) (fun c c1 c2 c3 => f1 c c3) (fun t _ => by rw [f1 _ (by omega)])
  obtain ⟨V3, eV3⟩ : ∃ V3, V3 = cr_pt (cr_pt (cr_pt V2 160 3 (b 3 + 1)) 159 13 (0 : Int32)) 159 14 (0 : Int32) := ⟨_, rfl⟩
  have q160 : V3 160 = sp_ov b1 (b 3 + 1) (b 4 + nI h) (b 5) (b 7 + w) := by rw [eV3, cr_pt_ne (by omega), cr_pt_ne (by omega), cr_pt_eq, r1, sp_ov_3]
  have q9 : ∀ t, t ≠ 13 → t ≠ 14 → V3 159 t = V2 159 t := fun t t1 t2 => by rw [eV3, cr_pv, if_neg (by omega), cr_pv, if_neg (by omega), cr_pt_ne (by omega)]
  have q13 : V3 159 13 = 0 := by rw [eV3, cr_pv, if_neg (by omega), cr_pv, if_pos (by omega)]
  have q14 : V3 159 14 = 0 := by rw [eV3, cr_pv, if_pos (by omega)]
  have qf : ∀ c, c ≠ 159 → c ≠ 160 → V3 c = V2 c := fun c c1 c2 => by rw [eV3, cr_pt_ne c1, cr_pt_ne c1, cr_pt_ne c2]
  obtain ⟨V4, e4, w160, w13, w14, wo, wf⟩ := cr_mtake (p := p) (ra := sp_ra b k) (ht := ht) zK.1 hp q160 v1 (by rw [q9 _ (by omega) (by omega)]; exact v2) v3 (fun j hj => by rw [qf _ (by omega) (by omega)]; exact r3 j hj) (fun j hj hl => by
    have e : b1 (8 + 5 * j + 4) = b (8 + 5 * j + 4) := sp_E_inv zE (fun i => ⟨by omega, by omega⟩)
    unfold sp_ra
    rw [if_neg (by rw [← e]; exact hl)]) q13 q14
  have hB4 := sp_tk_B (ra := sp_ra b k) (ht := ht) zK.1 hp n (Nat.le_refl n)
  have l5 : V4 160 5 = b 5 := by rw [w160]; rfl
  obtain ⟨V5, eV5⟩ : ∃ V5, V5 = cr_pt V4 160 5 (b 5 + (sp_tk k (nI p) (sp_ra b k) ht b1 n).2.1) := ⟨_, rfl⟩
  have y160 : V5 160 = sp_ov (sp_tk k (nI p) (sp_ra b k) ht b1 n).2.2.2 (b 3 + 1) (b 4 + nI h) (b 5 + (sp_tk k (nI p) (sp_ra b k) ht b1 n).2.1) (b 7 + w) := by rw [eV5, cr_pt_eq, w160, sp_ov_5]
  obtain ⟨V6, e6, z160, zf⟩ := cr_mgrow (g := (sp_tk k (nI p) (sp_ra b k) ht b1 n).1) hB4 y160
  have e3 : V2 160 3 = b 3 := by rw [r1]; rfl
  have low : ∀ t, t < 6 ∨ t = 7 → sp_gw (sp_tk k (nI p) (sp_ra b k) ht b1 n).1 (sp_tk k (nI p) (sp_ra b k) ht b1 n).2.2.2 k t = b t := fun t ht' => by
    rw [sp_gw_low ht', sp_tk_low (by omega)]
    exact sp_E_inv zE (fun i => ⟨by omega, by omega⟩)
  refine ⟨m, dx, dy, S', h, w, ht, b1, V6, zE, ?_, ?_, ?_, ?_, ?_, ?_, ?_, ?_, fun c c1 c2 c3 => ?_, fun t ht => ?_, cr_B_af zK.1 hp⟩
  · unfold f_X8_flicks
    rw [e1, cr_bd_some, e2, cr_bd_some, cr_G3, cr_G3, cr_lt_e, cr_lt_e, cr_lt_e, cr_T3, e3, ← eV3, e4, cr_bd_some]
    unfold cr_u2
    dsimp only
    rw [cr_G5, cr_G5, cr_lt_e, cr_T5, l5, w13, ← eV5, e6, cr_bd_some]
  · rw [z160]
    unfold sp_af
    rw [sp_nu_ov, low 3 (by omega), low 4 (by omega), low 5 (by omega), low 7 (by omega)]
  · rw [z160]; rfl
  · rw [zf _ (by omega), eV5, cr_pt_ne (by omega)]; exact w13
  · rw [zf _ (by omega), eV5, cr_pt_ne (by omega)]; exact w14
  · rw [zf _ (by omega), eV5, cr_pt_ne (by omega), wo _ (by omega) (by omega), q9 _ (by omega) (by omega)]; exact x10
  · rw [zf _ (by omega), eV5, cr_pt_ne (by omega), wo _ (by omega) (by omega), q9 _ (by omega) (by omega)]; exact x11
  · rw [zf _ (by omega), eV5, cr_pt_ne (by omega), wo _ (by omega) (by omega), q9 _ (by omega) (by omega)]; exact x12
  · rw [zf _ c2, eV5, cr_pt_ne c2, wf _ c1 c2, qf _ c1 c2]; exact r4 c c1 c2 c3
  · rw [zf _ (by omega), eV5, cr_pt_ne (by omega), wo _ (by omega) (by omega), q9 _ (by omega) (by omega)]; exact r5 t ht
theorem cr_mflicks {n k j d S p : Nat} {V : cr_Hp} {b : Nat → Int32} (hB : cr_B b n k) (hV : V 160 = b) (hSt : cr_St V) (hj : j < n) (hd : d < 8) (hS1 : 1 ≤ S) (hS : S ≤ 40) (hp : p < 3) :
    ∃ m dx dy S' h w ht b1 W, sp_E n k (j, cr_sx d, cr_sy d, S, 0, 0, fun _ => false, b) (m, dx, dy, S', h, w, ht, b1) ∧ f_X8_flicks (nI p) (nI j) (nI d) (nI S) V = some W ∧ W 160 = sp_af k n (nI p) b h w ht b1 ∧ W 160 4 = b 4 + nI h ∧ W 159 13 = (sp_tk k (nI p) (sp_ra b k) ht b1 n).2.1 ∧ W 159 14 = (sp_tk k (nI p) (sp_ra b k) ht b1 n).2.2.1 ∧ W 159 10 = nI m ∧ W 159 11 = b1 (8 + 5 * m) ∧ W 159 12 = b1 (8 + 5 * m + 1) ∧ (∀ c, c ≠ 159 → c ≠ 160 → c ≠ 166 → W c = V c) ∧ ∀ t, t < 9 → W 159 t = V 159 t := by
  obtain ⟨m, dx, dy, S', h, w, ht, b1, W, q1, q2, q3, q4, q5, q6, q7, q8, q9, q10, q11, -⟩ := cr_mflicks0 hB hV hSt hj hd hS1 hS hp
  exact ⟨m, dx, dy, S', h, w, ht, b1, W, q1, q2, q3, q4, q5, q6, q7, q8, q9, q10, q11⟩
theorem cr_IM_c {V W : cr_Hp} {b b' : Nat → Int32} {m L : Nat} {H : Nat → Nat → Int32} {T : Nat → Int32} (h : cr_IM V b m H L T) (hf : ∀ c, 159 ≤ c → c ≠ 159 → c ≠ 160 → c ≠ 161 → c ≠ 166 → W c = V c) (h9 : ∀ t, t < 9 → W 159 t = V 159 t) (hb : W 160 = b') : cr_IM W b' m H L T := by
  obtain ⟨hV, h3, hH, hL, hT, hS⟩ := h
  exact ⟨hb, by rw [h9 3 (by omega)]; exact h3, fun i hi t ht => by rw [hf 162 (by omega) (by omega) (by omega) (by omega) (by omega)]; exact hH i hi t ht, by rw [h9 5 (by omega)]; exact hL, fun i hi => by rw [hf 163 (by omega) (by omega) (by omega) (by omega) (by omega)]; exact hT i hi, by rw [cr_St, hf 164 (by omega) (by omega) (by omega) (by omega) (by omega), hf 165 (by omega) (by omega) (by omega) (by omega) (by omega)]; exact hS⟩
theorem cr_fl_args (d s : Int32) : ((f_X7_isDirection d = some 0 ∨ (f_X7_isDirection d = some 1 ∧ f_X7_isStrength s = some 0)) ∧ f_X8_isFlick d s = some 0) ∨ ∃ D S, D < 8 ∧ 1 ≤ S ∧ S ≤ 40 ∧ d = nI D ∧ s = nI S ∧ f_X7_isDirection d = some 1 ∧ f_X7_isStrength s = some 1 ∧ f_X8_isFlick d s = some 1 := by
  unfold f_X8_isFlick
  rcases cr_any_lt d (n := 8) (by decide) with h | ⟨D, hD, rfl⟩
  · refine Or.inl ⟨Or.inl (cr_isDir0 h), ?_⟩
    rw [cr_win cr_L7 (by decide) h, cr_bd_some, if_pos (by decide)]
  · have h7 : f_X8_within (nI D) (0 : Int32) (7 : Int32) = some 1 := cr_winY cr_L7 (by decide) (Nat.le_of_lt_succ hD)
    rw [h7, cr_bd_some, if_neg (by decide), cr_within]
    unfold f_X7_isStrength
    by_cases h1 : s < 1
    · refine Or.inl ⟨Or.inr ⟨cr_isDir hD, by rw [if_pos h1]⟩, ?_⟩
      rw [if_neg (fun h => h.1 h1), cr_bd_some, if_pos (by decide)]
    · by_cases h2 : (40 : Int32) < s
      · refine Or.inl ⟨Or.inr ⟨cr_isDir hD, by rw [if_neg h1, if_pos h2]⟩, ?_⟩
        rw [if_neg (fun h => h.2 h2), cr_bd_some, if_pos (by decide)]
      · obtain ⟨S, s1, s2, s3⟩ := cr_one_to (n := 40) (M := 40) (by decide) h1 (cr_nlt.mp h2)
        refine Or.inr ⟨D, S, hD, s1, s2, rfl, s3, cr_isDir hD, by rw [if_neg h1, if_neg h2], ?_⟩
        rw [if_pos ⟨h1, h2⟩, cr_bd_some, if_neg (by decide)]
theorem cr_owner {b : Nat → Int32} {n k j : Nat} (hB : cr_B b n k) (hj : j < n) : ∃ p, p < 3 ∧ b (8 + 5 * j + 3) = nI p := by
  obtain ⟨x, y, s, o, -, -, -, -, h3, -, -, -, eo, -⟩ := hB.2.2.2.2.2.1 j hj
  exact ⟨o, h3, eo⟩
theorem cr_m_flick {V : cr_Hp} (h : cr_I V) (x d s : Int32) : ∃ r V1 V2, f_X7_flick x d s V = some (r, V1) ∧ f_X8_flick x d s V1 = some (r, V2) ∧ cr_I V2 := by
  obtain ⟨b, n, k, m, H, L, T, hI, hM⟩ := h
  have same : cr_I V := ⟨b, n, k, m, H, L, T, hI, hM⟩
  have hB := hI.1
  have hC := hI.2.1
  have hn := hB.1
  have hk := hB.2.1
  unfold f_X7_flick f_X8_flick
  rcases cr_any_lt x (n := n) (by omega) with h | ⟨j, hj, rfl⟩
  · refine ⟨-1001, V, V, ?_, ?_, same⟩
    · rw [cr_find_n hB hC h, cr_bd_some, cr_on_0]
    · rw [cr_isM_n hB hM.1 h, cr_bd_some, if_pos (by decide)]
  · have hma := cr_ms_ma (cr_pg_ms hC.1) (show j < 12 by omega)
    rw [cr_find_s hB hC hj, cr_bd_some, cr_on_1, cr_gd_e hma]
    rcases cr_fl_args d s with ⟨h1, h2⟩ | ⟨D, S, hD, hS1, hS, rfl, rfl, h1, h2, h3⟩
    · refine ⟨-1002, V, V, ?_, ?_, same⟩
      · rcases h1 with h1 | ⟨h1, h3⟩
        · rw [h1, cr_bd_some, if_pos (by decide)]
        · rw [h1, cr_bd_some, if_neg (by decide), h3, cr_bd_some, if_pos (by decide)]
      · rw [cr_isM_s hB hM.1 hj, cr_bd_some, if_neg (by decide), h2, cr_bd_some, if_pos (by decide)]
    · rw [h1, cr_bd_some, if_neg (by decide), h2, cr_bd_some, if_neg (by decide)]
      obtain ⟨-, -, -, q4⟩ := hC.2.2.2.1 j hj
      obtain ⟨p, hp, ep⟩ := cr_owner hB hj
      obtain ⟨q, hq, eq⟩ := hB.2.2.2.2.1
      have v4 : V 0 4 = b 2 := hC.2.1 2 (by decide)
      rcases hC.2.2.2.2.1 j hj with ⟨l, l6, -⟩ | ⟨l, l6, -⟩
      · by_cases ho : b (8 + 5 * j + 3) = b 2
        · obtain ⟨W, e, hW, hf⟩ := cr_save hI
          obtain ⟨m1, dx1, dy1, S1, h1', w1, ht1, b1, W1, zE, zK, e1, hC1, x0, -, -, -, -, -, hf1⟩ := cr_play hB hW.2.1 hj hD hS hp ep
          have hM1 := cr_IM_fr hM (W := W1) (fun c hc => by rw [hf1 c (by omega) (by omega), hf c (by omega)])
          obtain ⟨W2, e2, hM2, hf2⟩ := cr_record (cr_IM_m hI) hM1
          obtain ⟨m2, dx2, dy2, S2, h2', w2, ht2, b2, W3, zE2, e3, y160, -, y13, -, -, -, -, hf3, h9⟩ := cr_mflicks hB hM2.1 hM2.2.2.2.2.2 hj hD hS1 hS hp
          have det := sp_E_det zE2 zE
          injection det with d1 det
          injection det with d2 det
          injection det with d3 det
          injection det with d4 det
          injection det with d5 det
          injection det with d6 det
          injection det with d7 d8
          subst d5 d6 d7 d8
          have hM3 := cr_IM_c hM2 (fun c _ c1 c2 _ c4 => hf3 c c1 c2 c4) h9 y160
          have eop : b 2 = nI p := ho.symm.trans ep
          have hBa : cr_B (sp_af k n (nI p) b h2' w2 ht2 b2) n k := cr_B_af zK.1 hp
          have hBx := cr_B_nx hBa
          have tailC : (if (V 0 4) = b 2 then (cr_bd (f_X0_save 0 V) (fun (V72 : cr_Hp) => cr_bd (f_X5_play 0 (nI j) (nI D) (nI S) V72) (fun (V86 : cr_Hp) => some ((V86 153 0), V86)))) else (some ((-1003 : Int32), V))) = some ((sp_tk k (nI p) (sp_ra b k) ht2 b2 n).2.1, W1) := by
            rw [if_pos v4, e, cr_bd_some, e1, cr_bd_some, x0]
          by_cases h0 : (sp_tk k (nI p) (sp_ra b k) ht2 b2 n).2.1 = 0
          · obtain ⟨W4, e4, z160, hf4⟩ := cr_mnext y160
            rw [if_pos h0] at hC1
            refine ⟨(sp_tk k (nI p) (sp_ra b k) ht2 b2 n).2.1, W1, W4, ?_, ?_, ⟨_, _, _, _, _, _, _, cr_IC_fr (cr_IC_b hW hBx hC1 (fun c c1 _ c3 => hf1 c (by omega) (by omega)) (fun j hj => by rw [hf1 _ (by omega) (by omega)]; exact hW.2.2.1 19 (by omega) j hj)) (fun c hc => by rw [hf4 c (by omega), hf3 c (by omega) (by omega) (by omega), hf2 c (by omega) (by omega)]), cr_IM_b hM3 (fun c c1 _ _ _ => hf4 c c1) z160⟩⟩
            · rw [l6, if_neg (by decide), q4, ho, v4, if_pos rfl, e, cr_bd_some, e1, cr_bd_some, x0]
            · rw [cr_isM_s hB hM1.1 hj, cr_bd_some, if_neg (by decide), h3, cr_bd_some, if_neg (by decide), cr_mthere (by omega) hM1.1 l, cr_bd_some, if_neg (by decide), cr_mp3 (by omega), cr_bd_some, cr_G2, if_pos (show W1 160 (8 + 5 * j + 3) = W1 160 (2 : Int32).toNatClampNeg by rw [cr_T2, hM1.1]; exact ho), e2, cr_bd_some, cr_G2, cr_T2, hM2.1, eop, e3, cr_bd_some, y13, if_pos h0, e4, cr_bd_some, hf4 _ (by omega), y13]
          · rw [if_neg h0] at hC1
            refine ⟨(sp_tk k (nI p) (sp_ra b k) ht2 b2 n).2.1, W1, W3, ?_, ?_, ⟨_, _, _, _, _, _, _, cr_IC_fr (cr_IC_b hW hBa hC1 (fun c c1 _ c3 => hf1 c (by omega) (by omega)) (fun j hj => by rw [hf1 _ (by omega) (by omega)]; exact hW.2.2.1 19 (by omega) j hj)) (fun c hc => by rw [hf3 c (by omega) (by omega) (by omega), hf2 c (by omega) (by omega)]), hM3⟩⟩
            · rw [l6, if_neg (by decide), q4, ho, v4, if_pos rfl, e, cr_bd_some, e1, cr_bd_some, x0]
            · rw [cr_isM_s hB hM1.1 hj, cr_bd_some, if_neg (by decide), h3, cr_bd_some, if_neg (by decide), cr_mthere (by omega) hM1.1 l, cr_bd_some, if_neg (by decide), cr_mp3 (by omega), cr_bd_some, cr_G2, if_pos (show W1 160 (8 + 5 * j + 3) = W1 160 (2 : Int32).toNatClampNeg by rw [cr_T2, hM1.1]; exact ho), e2, cr_bd_some, cr_G2, cr_T2, hM2.1, eop, e3, cr_bd_some, y13, if_neg h0]
        · refine ⟨-1003, V, V, ?_, ?_, same⟩
          · rw [l6, if_neg (by decide), q4, v4, if_neg ho]
          · rw [cr_isM_s hB hM.1 hj, cr_bd_some, if_neg (by decide), h3, cr_bd_some, if_neg (by decide), cr_mthere (by omega) hM.1 l, cr_bd_some, if_neg (by decide), cr_mp3 (by omega), cr_bd_some, cr_G2, if_neg (show ¬ V 160 (8 + 5 * j + 3) = V 160 (2 : Int32).toNatClampNeg by rw [cr_T2, hM.1]; exact ho)]
      · refine ⟨-1003, V, V, ?_, ?_, same⟩
        · rw [l6, if_pos (by decide)]
        · rw [cr_isM_s hB hM.1 hj, cr_bd_some, if_neg (by decide), h3, cr_bd_some, if_neg (by decide), cr_mthere0 (by omega) hM.1 l, cr_bd_some, if_pos (by decide)]
