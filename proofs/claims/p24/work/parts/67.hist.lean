/-! what was saved -/
def cr_num (V : cr_Hp) : Prop := ∀ a, cr_pg a → ∀ j, j < 12 → V (a + 1 + 2 + j) 0 = nI j
def cr_Hi (V : cr_Hp) (m : Nat) (H : Nat → Nat → Int32) : Prop := ∃ o, o < 6 ∧ V 154 1 = nI o ∧ V 154 2 = nI m ∧ m ≤ 6 ∧ ∀ i, i < m → ∃ n' k', cr_B (H i) n' k' ∧ cr_C (38 + 19 * ((o + i) % 6)) V (H i) n' k'
def cr_Tx (L : Nat) (T : Nat → Int32) : Prop := L ≤ 80 ∧ ∀ i, i < L → ∃ c, 33 ≤ c ∧ c ≤ 126 ∧ T i = nI c
def cr_IC (V : cr_Hp) (b : Nat → Int32) (n k m : Nat) (H : Nat → Nat → Int32) (L : Nat) (T : Nat → Int32) : Prop := cr_B b n k ∧ cr_C 0 V b n k ∧ cr_num V ∧ cr_Hi V m H ∧ cr_Tx L T ∧ V 157 1 = nI L ∧ ∀ i, i < L → V 158 i = T i
def sp_hm (m : Nat) : Nat := (if m = 6 then 5 else m) + 1
def sp_hh (m : Nat) (b : Nat → Int32) (H : Nat → Nat → Int32) : Nat → Nat → Int32 := fun i => if i = (if m = 6 then 5 else m) then b else if m = 6 then H (i + 1) else H i
theorem cr_slot {V : cr_Hp} {o i : Nat} (h : V 154 1 = nI o) (ho : o < 6) (hi : i ≤ 6) : f_X0_slotOf (nI i) V = some (some (38 + 19 * ((o + i) % 6))) := by
  unfold f_X0_slotOf
  rw [h, nI_add, cr_L6, pk_rem (by omega) (by decide) (by decide), cr_lt_e, if_neg (cr_nn (by omega)), if_pos (nI_lt (by omega) (by decide)), cr_gd_e (cr_ix_nI (by omega) (by decide)), nI_clamp (by omega)]
theorem cr_Hi_fr {V W : cr_Hp} {m : Nat} {H : Nat → Nat → Int32} (h : cr_Hi V m H) (hf : ∀ c, 38 ≤ c → c < 155 → c < 152 ∨ c = 154 → W c = V c) : cr_Hi W m H := by
  obtain ⟨o, ho, h1, h2, hm, h3⟩ := h
  refine ⟨o, ho, by rw [hf _ (by omega) (by omega) (by omega)]; exact h1, by rw [hf _ (by omega) (by omega) (by omega)]; exact h2, hm, fun i hi => ?_⟩
  obtain ⟨n', k', hB, hC⟩ := h3 i hi
  exact ⟨n', k', hB, cr_C_fr hB.1 hB.2.1 hC (fun c c1 c2 => hf c (by omega) (by omega) (by omega))⟩
theorem cr_save_b {V : cr_Hp} {b : Nat → Int32} {n k m : Nat} {H : Nat → Nat → Int32} (hB : cr_B b n k) (hC : cr_C 0 V b n k) (hN : cr_num V) (hH : cr_Hi V m H) (hm : m < 6) : ∃ W, f_X0_save_b27 0 V = some W ∧ cr_num W ∧ cr_Hi W (m + 1) (fun i => if i = m then b else H i) ∧ ∀ c, c < 38 ∨ 155 ≤ c ∨ c = 152 ∨ c = 153 → W c = V c := by
  obtain ⟨o, ho, h1, h2, -, h3⟩ := hH
  have hpg : cr_pg (38 + 19 * ((o + m) % 6)) := cr_sv_pg (by omega)
  obtain ⟨W, e, hW, hf⟩ := cr_copy hB.1 hB.2.1 hC hpg (by omega) (hN _ hpg)
  unfold f_X0_save_b27
  rw [h2, cr_slot h1 ho (by omega), cr_bd_some, cr_on_1, cr_gd_e hpg, e, cr_bd_some, cr_lt_e]
  have hf2 : ∀ c, c ≠ 154 → c < 38 + 19 * ((o + m) % 6) ∨ 38 + 19 * ((o + m) % 6) + 19 ≤ c → cr_pt W 154 2 ((W 154 2) + (1 : Int32)) c = V c := fun c c1 c2 => by rw [cr_pt_ne c1]; exact hf c c2
  refine ⟨_, rfl, fun a ha j hj => ?_, ⟨o, ho, ?_, ?_, by omega, fun i hi => ?_⟩, fun c hc => hf2 c (by omega) (by omega)⟩
  · rw [cr_pt_ne (by omega)]
    by_cases h : a = 38 + 19 * ((o + m) % 6)
    · rw [h]; exact hW.2.2.1 j hj
    · rw [hf _ (by omega)]; exact hN a ha j hj
  · rw [cr_pv, if_neg (by omega), hf _ (by omega)]; exact h1
  · rw [cr_pv, if_pos ⟨rfl, rfl⟩, hf _ (by omega), h2, cr_1]
  · by_cases h : i = m
    · subst h
      dsimp only
      rw [if_pos rfl]
      exact ⟨n, k, hB, cr_C_fr hB.1 hB.2.1 hW (fun c c1 c2 => cr_pt_ne (by omega))⟩
    · obtain ⟨n', k', hB', hC'⟩ := h3 i (by omega)
      dsimp only
      rw [if_neg h]
      exact ⟨n', k', hB', cr_C_fr hB'.1 hB'.2.1 hC' (fun c c1 c2 => hf2 c (by omega) (by omega))⟩
theorem cr_save {V : cr_Hp} {b : Nat → Int32} {n k m L : Nat} {H : Nat → Nat → Int32} {T : Nat → Int32} (hI : cr_IC V b n k m H L T) : ∃ W, f_X0_save 0 V = some W ∧ cr_IC W b n k (sp_hm m) (sp_hh m b H) L T ∧ ∀ c, c < 38 ∨ 155 ≤ c ∨ c = 152 ∨ c = 153 → W c = V c := by
  obtain ⟨hB, hC, hN, hH, hL, hT, hT2⟩ := hI
  obtain ⟨o, ho, h1, h2, hm, h3⟩ := hH
  unfold f_X0_save
  suffices h : ∃ W, (if (V 154 2) < (6 : Int32) then (f_X0_save_b27 0 V) else (cr_lt (cr_pt V 154 1 (((V 154 1) + (1 : Int32)) - ((V 154 1) + (1 : Int32)) / (6 : Int32) * (6 : Int32))) (fun (V19 : cr_Hp) => cr_lt (cr_pt V19 154 2 (5 : Int32)) (fun (V24 : cr_Hp) => f_X0_save_b27 0 V24)))) = some W ∧ cr_num W ∧ cr_Hi W (sp_hm m) (sp_hh m b H) ∧ ∀ c, c < 38 ∨ 155 ≤ c ∨ c = 152 ∨ c = 153 → W c = V c by
    obtain ⟨W, e, w1, w2, w3⟩ := h
    refine ⟨W, e, ⟨hB, cr_C_fr hB.1 hB.2.1 hC (fun c c1 c2 => w3 c (by omega)), w1, w2, hL, by rw [w3 _ (by omega)]; exact hT, fun i hi => by rw [w3 _ (by omega)]; exact hT2 i hi⟩, w3⟩
  by_cases hm6 : m = 6
  · subst hm6
    rw [h2, cr_L6, if_neg (nI_nlt (Nat.le_refl 6) (by decide)), h1, cr_1, pk_rem (by omega) (by decide) (by decide), cr_lt_e, cr_lt_e]
    have hf : ∀ c, c ≠ 154 → cr_pt (cr_pt V 154 1 (nI ((o + 1) % 6))) 154 2 (5 : Int32) c = V c := fun c hc => by rw [cr_pt_ne hc, cr_pt_ne hc]
    obtain ⟨W, e, w1, w2, w3⟩ := cr_save_b (V := cr_pt (cr_pt V 154 1 (nI ((o + 1) % 6))) 154 2 (5 : Int32)) (m := 5) (H := fun i => H (i + 1)) hB (cr_C_fr hB.1 hB.2.1 hC (fun c c1 c2 => hf c (by omega))) (fun a ha j hj => by rw [hf _ (by omega)]; exact hN a ha j hj) ⟨(o + 1) % 6, by omega, by rw [cr_pv, if_neg (by omega), cr_pv, if_pos ⟨rfl, rfl⟩], by rw [cr_pv, if_pos ⟨rfl, rfl⟩]; rfl, by omega, fun i hi => by
      obtain ⟨n', k', hB', hC'⟩ := h3 (i + 1) (by omega)
      refine ⟨n', k', hB', cr_C_fr hB'.1 hB'.2.1 ?_ (fun c c1 c2 => hf c (by omega))⟩
      rw [show (o + 1) % 6 + i = (o + 1) % 6 + i from rfl, show ((o + 1) % 6 + i) % 6 = (o + (i + 1)) % 6 by omega]
      exact hC'⟩ (by omega)
    exact ⟨W, e, w1, w2, fun c hc => by rw [w3 c hc, hf c (by omega)]⟩
  · rw [h2, cr_L6, if_pos (nI_lt (by omega) (by decide))]
    obtain ⟨W, e, w1, w2, w3⟩ := cr_save_b hB hC hN ⟨o, ho, h1, h2, hm, h3⟩ (by omega)
    refine ⟨W, e, w1, ?_, w3⟩
    unfold sp_hm sp_hh
    simp only [if_neg hm6]
    exact w2
theorem cr_IC_fr {V W : cr_Hp} {b : Nat → Int32} {n k m L : Nat} {H : Nat → Nat → Int32} {T : Nat → Int32} (h : cr_IC V b n k m H L T) (hf : ∀ c, c < 159 → W c = V c) : cr_IC W b n k m H L T := by
  obtain ⟨hB, hC, hN, hH, hL, hT, hT2⟩ := h
  exact ⟨hB, cr_C_fr hB.1 hB.2.1 hC (fun c c1 c2 => hf c (by omega)), fun a ha j hj => by rw [hf _ (by omega)]; exact hN a ha j hj, cr_Hi_fr hH (fun c c1 c2 _ => hf c (by omega)), hL, by rw [hf _ (by omega)]; exact hT, fun i hi => by rw [hf _ (by omega)]; exact hT2 i hi⟩
theorem cr_Hi_m {V : cr_Hp} {m : Nat} {H : Nat → Nat → Int32} (h : cr_Hi V m H) : m ≤ 6 ∧ V 154 2 = nI m := by
  obtain ⟨o, ho, h1, h2, hm, h3⟩ := h
  exact ⟨hm, h2⟩
