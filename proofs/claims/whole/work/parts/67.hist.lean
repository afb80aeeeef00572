/-! what was saved -/
def cr_num (V : cr_Hp) : Prop := ∀ a, cr_pg a → ∀ j, j < 12 → V (a + 1 + 2 + j) 0 = nI j
def cr_Hi (V : cr_Hp) (m : Nat) (H : Nat → Nat → Int32) : Prop := ∃ o, o < 6 ∧ V 154 1 = nI o ∧ V 154 2 = nI m ∧ m ≤ 6 ∧ ∀ i, i < m → ∃ n' k', cr_B (H i) n' k' ∧ cr_C (38 + 19 * ((o + i) % 6)) V (H i) n' k'
def cr_Tx (L : Nat) (T : Nat → Int32) : Prop := L ≤ 80 ∧ ∀ i, i < L → ∃ c, 33 ≤ c ∧ c ≤ 126 ∧ T i = nI c
def cr_IC (V : cr_Hp) (b : Nat → Int32) (n k m : Nat) (H : Nat → Nat → Int32) (L : Nat) (T : Nat → Int32) : Prop := cr_B b n k ∧ cr_C 0 V b n k ∧ cr_num V ∧ cr_Hi V m H ∧ cr_Tx L T ∧ V 157 1 = nI L ∧ ∀ i, i < L → V 158 i = T i
def cr_IM (V : cr_Hp) (b : Nat → Int32) (m : Nat) (H : Nat → Nat → Int32) (L : Nat) (T : Nat → Int32) : Prop := V 160 = b ∧ V 159 3 = nI m ∧ (∀ i, i < m → ∀ t, t < 80 → V 162 (80 * i + t) = H i t) ∧ V 159 5 = nI L ∧ (∀ i, i < L → V 163 i = T i) ∧ cr_St V
def sp_hm (m : Nat) : Nat := (if m = 6 then 5 else m) + 1
def sp_hh (m : Nat) (b : Nat → Int32) (H : Nat → Nat → Int32) : Nat → Nat → Int32 := fun i => if i = (if m = 6 then 5 else m) then b else if m = 6 then H (i + 1) else H i
theorem cr_slot {V : cr_Hp} {o i : Nat} (h : V 154 1 = nI o) (ho : o < 6) (hi : i ≤ 6) : f_X0_slotOf (nI i) V = some (some (38 + 19 * ((o + i) % 6))) := by
  unfold f_X0_slotOf
  rw [h, nI_add, cr_L6, pk_rem (by omega) (by decide) (by decide), cr_lt_e, if_neg (cr_nn (by omega)), if_pos (nI_lt (by omega) (by decide)), cr_gd_e (cr_ix_nI (by omega) (by decide)), nI_clamp (by omega)]
theorem cr_Hi_fr {V W : cr_Hp} {m : Nat} {H : Nat → Nat → Int32} (h : cr_Hi V m H) (hf : ∀ c, 38 ≤ c → c < 155 → c < 152 ∨ c = 154 → W c = V c) : cr_Hi W m H := by
  obtain ⟨o, ho, h1, h2, hm, h3⟩ := h
  refine ⟨o, ho, by rw [hf _ (by omega) (by omega) (by omega)]; exact h1, by rw [hf _ (by omega) (by omega) (by omega)]; exact h2, hm, fun i hi => ?_⟩
  obtain ⟨n', k', hB, hC⟩ := h3 i hi
  exact ⟨n', k', hB, cr_C_fr hB.1 hB.2.1 hC (fun c c1 c2 => hf c (by omega) (by omega) (by omega))⟩
theorem cr_save_b {V : cr_Hp} {b : Nat → Int32} {n k m : Nat} {H : Nat → Nat → Int32} (hB : cr_B b n k) (hC : cr_C 0 V b n k) (hN : cr_num V) (hH : cr_Hi V m H) (hm : m < 6) : ∃ W, f_X0_save_b27 0 V = some W ∧ cr_num W ∧ cr_Hi W (m + 1) (fun i => if i = m then b else H i) ∧ ∀ c, c < 38 ∨ 155 ≤ c ∨ c = 152 ∨ c = 153 → W c = V c := by
  obtain ⟨o, ho, h1, h2, -, h3⟩ := hH
  have hpg : cr_pg (38 + 19 * ((o + m) % 6)) := cr_sv_pg (by omega)
  obtain ⟨W, e, hW, hf⟩ := cr_copy hB.1 hB.2.1 hC hpg (by omega) (hN _ hpg)
  unfold f_X0_save_b27
  rw [h2, cr_slot h1 ho (by omega), cr_bd_some, cr_on_1, cr_gd_e hpg, e, cr_bd_some, cr_lt_e]
  have hf2 : ∀ c, c ≠ 154 → c < 38 + 19 * ((o + m) % 6) ∨ 38 + 19 * ((o + m) % 6) + 19 ≤ c → cr_pt W 154 2 ((W 154 2) + (1 : Int32)) c = V c := fun c c1 c2 => by rw [cr_pt_ne c1]; exact hf c c2
  refine ⟨_, rfl, fun a ha j hj => ?_, ⟨o, ho, ?_, ?_, by omega, fun i hi => ?_⟩, fun c hc => hf2 c (by omega) (by omega)⟩
  · rw [cr_pt_ne (by omega)]
    by_cases h : a = 38 + 19 * ((o + m) % 6)
    · rw [h]; exact hW.2.2.1 j hj
    · rw [hf _ (by omega)]; exact hN a ha j hj
  · rw [cr_pv, if_neg (by omega), hf _ (by omega)]; exact h1
  · rw [cr_pv, if_pos ⟨rfl, rfl⟩, hf _ (by omega), h2, cr_1]
  · by_cases h : i = m
    · subst h
      dsimp only
      rw [if_pos rfl]
      exact ⟨n, k, hB, cr_C_fr hB.1 hB.2.1 hW (fun c c1 c2 => cr_pt_ne (by omega))⟩
    · obtain ⟨n', k', hB', hC'⟩ := h3 i (by omega)
      dsimp only
      rw [if_neg h]
      exact ⟨n', k', hB', cr_C_fr hB'.1 hB'.2.1 hC' (fun c c1 c2 => hf2 c (by omega) (by omega))⟩
theorem cr_save {V : cr_Hp} {b : Nat → Int32} {n k m L : Nat} {H : Nat → Nat → Int32} {T : Nat → Int32} (hI : cr_IC V b n k m H L T) : ∃ W, f_X0_save 0 V = some W ∧ cr_IC W b n k (sp_hm m) (sp_hh m b H) L T ∧ ∀ c, c < 38 ∨ 155 ≤ c ∨ c = 152 ∨ c = 153 → W c = V c := by
  obtain ⟨hB, hC, hN, hH, hL, hT, hT2⟩ := hI
  obtain ⟨o, ho, h1, h2, hm, h3⟩ := hH
  unfold f_X0_save
  suffices h : ∃ W, (if (V 154 2) < (6 : Int32) then (f_X0_save_b27 0 V) else (cr_lt (cr_pt V 154 1 (((V 154 1) + (1 : Int32)) - ((V 154 1) + (1 : Int32)) / (6 : Int32) * (6 : Int32))) (fun (V19 : cr_Hp) => cr_lt (cr_pt V19 154 2 (5 : Int32)) (fun (V24 : cr_Hp) => f_X0_save_b27 0 V24)))) = some W ∧ cr_num W ∧ cr_Hi W (sp_hm m) (sp_hh m b H) ∧ ∀ c, c < 38 ∨ 155 ≤ c ∨ c = 152 ∨ c = 153 → W c = V c by
    obtain ⟨W, e, w1, w2, w3⟩ := h
    refine ⟨W, e, ⟨hB, cr_C_fr hB.1 hB.2.1 hC (fun c c1 c2 => w3 c (by omega)), w1, w2, hL, by rw [w3 _ (by omega)]; exact hT, fun i hi => by rw [w3 _ (by omega)]; exact hT2 i hi⟩, w3⟩
  by_cases hm6 : m = 6
  · subst hm6
    rw [h2, cr_L6, if_neg (nI_nlt (Nat.le_refl 6) (by decide)), h1, cr_1, pk_rem (by omega) (by decide) (by decide), cr_lt_e, cr_lt_e]
    have hf : ∀ c, c ≠ 154 → cr_pt (cr_pt V 154 1 (nI ((o + 1) % 6))) 154 2 (5 : Int32) c = V c := fun c hc => by rw [cr_pt_ne hc, cr_pt_ne hc]
    obtain ⟨W, e, w1, w2, w3⟩ := cr_save_b (V := cr_pt (cr_pt V 154 1 (nI ((o + 1) % 6))) 154 2 (5 : Int32)) (m := 5) (H := fun i => H (i + 1)) hB (cr_C_fr hB.1 hB.2.1 hC (fun c c1 c2 => hf c (by omega))) (fun a ha j hj => by rw [hf _ (by omega)]; exact hN a ha j hj) ⟨(o + 1) % 6, by omega, by rw [cr_pv, if_neg (by omega), cr_pv, if_pos ⟨rfl, rfl⟩], by rw [cr_pv, if_pos ⟨rfl, rfl⟩]; rfl, by omega, fun i hi => by
      obtain ⟨n', k', hB', hC'⟩ := h3 (i + 1) (by omega)
      refine ⟨n', k', hB', cr_C_fr hB'.1 hB'.2.1 ?_ (fun c c1 c2 => hf c (by omega))⟩
      rw [show (o + 1) % 6 + i = (o + 1) % 6 + i from rfl, show ((o + 1) % 6 + i) % 6 = (o + (i + 1)) % 6 by omega]
      exact hC'⟩ (by omega)
    exact ⟨W, e, w1, w2, fun c hc => by rw [w3 c hc, hf c (by omega)]⟩
  · rw [h2, cr_L6, if_pos (nI_lt (by omega) (by decide))]
    obtain ⟨W, e, w1, w2, w3⟩ := cr_save_b hB hC hN ⟨o, ho, h1, h2, hm, h3⟩ (by omega)
    refine ⟨W, e, w1, ?_, w3⟩
    unfold sp_hm sp_hh
    simp only [if_neg hm6]
    exact w2
theorem cr_record_b {V : cr_Hp} {b : Nat → Int32} {m : Nat} {H : Nat → Nat → Int32} (hV : V 160 = b) (hm : V 159 3 = nI m) (hm6 : m < 6) (hH : ∀ i, i < m → ∀ t, t < 80 → V 162 (80 * i + t) = H i t) : ∃ W, f_X8_record_b49 V = some W ∧ (∀ c, c ≠ 159 → c ≠ 162 → W c = V c) ∧ (∀ t, t ≠ 3 → W 159 t = V 159 t) ∧ W 159 3 = nI (m + 1) ∧ ∀ i, i < m + 1 → ∀ t, t < 80 → W 162 (80 * i + t) = (if i = m then b else H i) t := by
  unfold f_X8_record_b49
  rw [hm, cr_L80, pk_mul]
  obtain ⟨W, e, w1, w2, w3⟩ := cr_copies (A := 160) (B := 162) (f := 0) (t := m * 80) (V := V) (by decide) (by decide) (by show m * 80 + 80 ≤ 480; omega) (by decide) (by decide)
  rw [show f_X8_copies 160 162 (0 : Int32) (nI (m * 80)) V = some W from e, cr_bd_some, cr_lt_e]
  refine ⟨_, rfl, fun c c1 c2 => by rw [cr_pt_ne c1]; exact w1 c c2, fun t ht => by rw [cr_pv, if_neg (by omega), w1 159 (by omega)], ?_, fun i hi t ht => ?_⟩
  · rw [cr_pv, if_pos ⟨rfl, rfl⟩, w1 159 (by omega), hm, cr_1]
  · rw [cr_pt_ne (by omega)]
    by_cases h : i = m
    · subst h
      rw [if_pos rfl, show 80 * i + t = i * 80 + t by omega, w2 t ht, Nat.zero_add, hV]
    · rw [if_neg h, w3 _ (by omega)]; exact hH i (by omega) t ht
theorem cr_record {V : cr_Hp} {b : Nat → Int32} {m L : Nat} {H : Nat → Nat → Int32} {T : Nat → Int32} (hm : m ≤ 6) (hI : cr_IM V b m H L T) : ∃ W, f_X8_record V = some W ∧ cr_IM W b (sp_hm m) (sp_hh m b H) L T ∧ ∀ c, c ≠ 159 → c ≠ 162 → W c = V c := by
  obtain ⟨hV, h3, hH, hL, hT, hS⟩ := hI
  unfold f_X8_record
  rw [h3]
  by_cases hm6 : m = 6
  · subst hm6
    rw [if_pos (show nI 6 = (6 : Int32) from rfl)]
    obtain ⟨V1, e1, w1, w2⟩ := cr_invH (F := fun x W => f_X8_record_l11 x W) (V := V) (fun i W => (∀ c, c ≠ 162 → W c = V c) ∧ ∀ t, t < 480 → W 162 t = V 162 (if t < i then t + 80 else t)) (fun W => (∀ c, c ≠ 162 → W c = V c) ∧ ∀ t, t < 480 → W 162 t = V 162 (if t < 400 then t + 80 else t)) 400
      ⟨fun _ _ => rfl, fun t _ => by rw [if_neg (by omega)]⟩ (fun i hi W ⟨w1, w2⟩ => by
        unfold f_X8_record_l11
        rw [cr_L400, if_neg (nI_ge hi (by decide)), cr_L80, nI_add, cr_gd_e (cr_ix_nI (by omega) (by decide)), cr_gd_e (cr_ix_nI (by omega) (by decide)), nI_clamp (by omega), nI_clamp (by omega), cr_1, cr_lt_e]
        refine ⟨_, rfl, fun c hc => by rw [cr_pt_ne hc]; exact w1 c hc, fun t ht => ?_⟩
        rw [cr_pv]
        rcases Nat.lt_or_ge t i with h | h
        · rw [if_neg (by omega), w2 t ht, if_pos (by omega), if_pos (by omega)]
        · rcases Nat.lt_or_ge i t with h2 | h2
          · rw [if_neg (by omega), w2 t ht, if_neg (by omega), if_neg (by omega)]
          · rw [if_pos ⟨rfl, by omega⟩, w2 (i + 80) (by omega), if_neg (by omega), if_pos (by omega), show t = i by omega])
      (fun W hW => ⟨W, by
        unfold f_X8_record_l11
        rw [cr_L400, if_pos (nI_le (Nat.le_refl 400) (by decide))], hW⟩) (by decide)
    rw [e1, cr_bd_some, cr_lt_e]
    have hf : ∀ c, c ≠ 159 → c ≠ 162 → cr_pt V1 159 3 ((V1 159 3) - (1 : Int32)) c = V c := fun c c1 c2 => by rw [cr_pt_ne c1, w1 c c2]
    have hf9 : ∀ t, t ≠ 3 → cr_pt V1 159 3 ((V1 159 3) - (1 : Int32)) 159 t = V 159 t := fun t ht => by rw [cr_pv, if_neg (by omega), w1 159 (by omega)]
    obtain ⟨W, e, x1, x2, x3, x4⟩ := cr_record_b (V := cr_pt V1 159 3 ((V1 159 3) - (1 : Int32))) (b := b) (m := 5) (H := fun i => H (i + 1)) (by rw [hf _ (by omega) (by omega)]; exact hV) (by rw [cr_pv, if_pos ⟨rfl, rfl⟩, w1 159 (by omega), h3]; rfl) (by omega) (fun i hi t ht => by
      rw [cr_pt_ne (by omega), w2 _ (by omega), if_pos (by omega), show 80 * i + t + 80 = 80 * (i + 1) + t by omega]
      exact hH (i + 1) (by omega) t ht)
    refine ⟨W, e, ⟨by rw [x1 _ (by omega) (by omega), hf _ (by omega) (by omega)]; exact hV, x3, x4, by rw [x2 _ (by omega), hf9 _ (by omega)]; exact hL, fun i hi => by rw [x1 _ (by omega) (by omega), hf _ (by omega) (by omega)]; exact hT i hi, by rw [cr_St, x1 _ (by omega) (by omega), hf _ (by omega) (by omega), x1 _ (by omega) (by omega), hf _ (by omega) (by omega)]; exact hS⟩, fun c c1 c2 => by rw [x1 c c1 c2, hf c c1 c2]⟩
  · rw [if_neg (show ¬ nI m = (6 : Int32) from fun h => hm6 ((nI_eq (by omega) (by decide)).mp (h.trans cr_L6)))]
    obtain ⟨W, e, x1, x2, x3, x4⟩ := cr_record_b (V := V) (b := b) (m := m) (H := H) hV h3 (by omega) hH
    unfold sp_hm sp_hh
    simp only [if_neg hm6]
    exact ⟨W, e, ⟨by rw [x1 _ (by omega) (by omega)]; exact hV, x3, x4, by rw [x2 _ (by omega)]; exact hL, fun i hi => by rw [x1 _ (by omega) (by omega)]; exact hT i hi, by rw [cr_St, x1 _ (by omega) (by omega), x1 _ (by omega) (by omega)]; exact hS⟩, x1⟩
/-- both sides together -/
def cr_I (V : cr_Hp) : Prop := ∃ b n k m H L T, cr_IC V b n k m H L T ∧ cr_IM V b m H L T
theorem cr_IC_fr {V W : cr_Hp} {b : Nat → Int32} {n k m L : Nat} {H : Nat → Nat → Int32} {T : Nat → Int32} (h : cr_IC V b n k m H L T) (hf : ∀ c, c < 159 → W c = V c) : cr_IC W b n k m H L T := by
  obtain ⟨hB, hC, hN, hH, hL, hT, hT2⟩ := h
  exact ⟨hB, cr_C_fr hB.1 hB.2.1 hC (fun c c1 c2 => hf c (by omega)), fun a ha j hj => by rw [hf _ (by omega)]; exact hN a ha j hj, cr_Hi_fr hH (fun c c1 c2 _ => hf c (by omega)), hL, by rw [hf _ (by omega)]; exact hT, fun i hi => by rw [hf _ (by omega)]; exact hT2 i hi⟩
theorem cr_IM_fr {V W : cr_Hp} {b : Nat → Int32} {m L : Nat} {H : Nat → Nat → Int32} {T : Nat → Int32} (h : cr_IM V b m H L T) (hf : ∀ c, 159 ≤ c → W c = V c) : cr_IM W b m H L T := by
  obtain ⟨hV, h3, hH, hL, hT, hS⟩ := h
  exact ⟨by rw [hf _ (by omega)]; exact hV, by rw [hf _ (by omega)]; exact h3, fun i hi t ht => by rw [hf _ (by omega)]; exact hH i hi t ht, by rw [hf _ (by omega)]; exact hL, fun i hi => by rw [hf _ (by omega)]; exact hT i hi, by rw [cr_St, hf _ (by omega), hf _ (by omega)]; exact hS⟩
theorem cr_Hi_m {V : cr_Hp} {m : Nat} {H : Nat → Nat → Int32} (h : cr_Hi V m H) : m ≤ 6 ∧ V 154 2 = nI m := by
  obtain ⟨o, ho, h1, h2, hm, h3⟩ := h
  exact ⟨hm, h2⟩
/-- undo -/
theorem cr_restore {V : cr_Hp} {b : Nat → Int32} {n k m L : Nat} {H : Nat → Nat → Int32} {T : Nat → Int32} (hI : cr_IC V b n k m H L T) (h0 : 0 < m) : ∃ n' k' W, f_X0_restore 0 V = some W ∧ cr_IC W (H (m - 1)) n' k' (m - 1) H L T ∧ ∀ c, 155 ≤ c → W c = V c := by
  obtain ⟨hB, hC, hN, hH, hL, hT, hT2⟩ := hI
  obtain ⟨o, ho, h1, h2, hm, h3⟩ := hH
  obtain ⟨n', k', hB', hC'⟩ := h3 (m - 1) (by omega)
  obtain ⟨W, e, hW, hf⟩ := cr_copy (a := 0) hB'.1 hB'.2.1 hC' (by omega) (by omega) (hN 0 (by omega))
  unfold f_X0_restore
  rw [h2, cr_L1, pk_sub (by omega), cr_slot h1 ho (by omega), cr_bd_some, cr_on_1, cr_gd_e hC'.1, e, cr_bd_some, cr_lt_e]
  have hf2 : ∀ c, c ≠ 154 → 19 ≤ c → cr_pt W 154 2 ((W 154 2) - nI 1) c = V c := fun c c1 c2 => by rw [cr_pt_ne c1]; exact hf c (by omega)
  refine ⟨n', k', _, rfl, ⟨hB', cr_C_fr hB'.1 hB'.2.1 hW (fun c c1 c2 => cr_pt_ne (by omega)), fun a ha j hj => ?_, ⟨o, ho, ?_, ?_, by omega, fun i hi => ?_⟩, hL, by rw [hf2 _ (by omega) (by omega)]; exact hT, fun i hi => by rw [hf2 _ (by omega) (by omega)]; exact hT2 i hi⟩, fun c hc => hf2 c (by omega) (by omega)⟩
  · rw [cr_pt_ne (by omega)]
    by_cases h : a = 0
    · rw [h]; exact hW.2.2.1 j hj
    · rw [hf _ (by omega)]; exact hN a ha j hj
  · rw [cr_pv, if_neg (by omega), hf _ (by omega)]; exact h1
  · rw [cr_pv, if_pos ⟨rfl, rfl⟩, hf _ (by omega), h2, pk_sub (by omega)]
  · obtain ⟨n2, k2, hB2, hC2⟩ := h3 i (by omega)
    exact ⟨n2, k2, hB2, cr_C_fr hB2.1 hB2.2.1 hC2 (fun c c1 c2 => hf2 c (by omega) (by omega))⟩
theorem cr_m_undo {V : cr_Hp} (h : cr_I V) : ∃ r V1 V2, f_X7_undo V = some (r, V1) ∧ f_X8_undo V1 = some (r, V2) ∧ cr_I V2 := by
  obtain ⟨b, n, k, m, H, L, T, hI, hM⟩ := h
  have hm := cr_Hi_m hI.2.2.2.1
  unfold f_X7_undo
  by_cases h0 : m = 0
  · subst h0
    refine ⟨-1003, V, V, ?_, ?_, ⟨b, n, k, 0, H, L, T, hI, hM⟩⟩
    · rw [hm.2, if_pos (by decide)]
    · unfold f_X8_undo
      rw [hM.2.1, if_pos (by decide)]
  · obtain ⟨n', k', W, e, hW, hf⟩ := cr_restore hI (by omega)
    have hm2 := cr_Hi_m hW.2.2.2.1
    have hM1 := cr_IM_fr hM (fun c hc => hf c (by omega))
    obtain ⟨hV, g3, hH, hL, hT, hS⟩ := hM1
    have hBm : cr_B (H (m - 1)) n' k' := hW.1
    rw [hm.2, if_neg (nI_ne0 (by omega) (by omega)), e, cr_bd_some, hm2.2]
    suffices hz : ∃ V2, f_X8_undo W = some (nI (m - 1), V2) ∧ cr_I V2 by
      obtain ⟨V2, z1, z2⟩ := hz
      exact ⟨_, W, V2, rfl, z1, z2⟩
    unfold f_X8_undo
    rw [g3, if_neg (nI_ne0 (by omega) (by omega)), cr_L1, pk_sub (by omega), cr_lt_e, cr_pv, if_pos ⟨rfl, rfl⟩, cr_L80, pk_mul]
    obtain ⟨W2, e2, w1, w2, w3⟩ := cr_copies (A := 162) (B := 160) (f := (m - 1) * 80) (t := 0) (V := cr_pt W 159 3 (nI (m - 1))) (by decide) (by show (m - 1) * 80 + 80 ≤ 480; omega) (by decide) (by decide) (by decide)
    rw [show f_X8_copies 162 160 (nI ((m - 1) * 80)) (0 : Int32) (cr_pt W 159 3 (nI (m - 1))) = some W2 from e2, cr_bd_some, w1 159 (by omega), cr_pv, if_pos ⟨rfl, rfl⟩]
    refine ⟨W2, rfl, ⟨H (m - 1), n', k', m - 1, H, L, T, cr_IC_fr hW (fun c hc => by rw [w1 c (by omega), cr_pt_ne (by omega)]), ⟨?_, ?_, fun i hi t ht => ?_, ?_, fun i hi => ?_, ?_⟩⟩⟩
    · funext t
      rcases Nat.lt_or_ge t 80 with ht | ht
      · have h1 := w2 t ht
        rw [Nat.zero_add, cr_pt_ne (by omega), show (m - 1) * 80 + t = 80 * (m - 1) + t by omega, hH (m - 1) (by omega) t ht] at h1
        exact h1
      · rw [w3 t (by omega), cr_pt_ne (by omega), hV, hI.1.2.2.2.2.2.2.2.2 t ht, hBm.2.2.2.2.2.2.2.2 t ht]
    · rw [w1 159 (by omega), cr_pv, if_pos ⟨rfl, rfl⟩]
    · rw [w1 _ (by omega), cr_pt_ne (by omega)]; exact hH i (by omega) t ht
    · rw [w1 159 (by omega), cr_pv, if_neg (by omega)]; exact hL
    · rw [w1 _ (by omega), cr_pt_ne (by omega)]; exact hT i hi
    · rw [cr_St, w1 _ (by omega), cr_pt_ne (by omega), w1 _ (by omega), cr_pt_ne (by omega)]; exact hS
