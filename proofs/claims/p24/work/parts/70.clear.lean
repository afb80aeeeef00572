/-! numbers of the game; clear, pass, the text -/
theorem cr_C_set {a c : Nat} {V : cr_Hp} {b : Nat → Int32} {n k : Nat} {v : Int32} (hn : n ≤ 12) (hC : cr_C a V b n k) (h8 : c < 8) : cr_C a (cr_pt V a (c + 2) v) (upd b c v) n k := by
  obtain ⟨c1, c2, c3, c4, c5, c6, c7, c8⟩ := hC
  refine ⟨c1, fun t ht => ?_, fun i hi => ?_, fun i hi => ?_, fun i hi => ?_, fun i hi hi2 => ?_, fun r hr => ?_, fun r hr hr4 => ?_⟩
  · rw [cr_pv, cr_uv]
    by_cases h : t = c
    · rw [if_pos h, if_pos ⟨rfl, by omega⟩]
    · rw [if_neg h, if_neg (by omega)]; exact c2 t ht
  · rw [cr_pt_ne (by omega)]; exact c3 i hi
  · rw [cr_pt_ne (by omega), cr_uv, if_neg (by omega), cr_uv, if_neg (by omega), cr_uv, if_neg (by omega), cr_uv, if_neg (by omega)]; exact c4 i hi
  · rw [cr_lie, cr_pt_ne (by omega), cr_uv, if_neg (by omega)]; exact c5 i hi
  · rw [cr_pt_ne (by omega)]; exact c6 i hi hi2
  · rw [cr_pt_ne (by omega), cr_uv, if_neg (by omega), cr_uv, if_neg (by omega), cr_uv, if_neg (by omega)]; exact c7 r hr
  · rw [cr_pt_ne (by omega)]; exact c8 r hr hr4
theorem cr_B_u {b : Nat → Int32} {n k c : Nat} {v : Int32} (hB : cr_B b n k) (h2 : 2 ≤ c) (h8 : c < 8) (hq : c = 2 → ∃ q, q < 3 ∧ v = nI q) : cr_B (upd b c v) n k := by
  obtain ⟨hn, hk, b0, b1, b2, bm, br, bd, bz⟩ := hB
  refine ⟨hn, hk, by rw [cr_uv, if_neg (by omega)]; exact b0, by rw [cr_uv, if_neg (by omega)]; exact b1, ?_, fun j hj => ?_, fun r hr => ?_, fun i j hi hj hij li lj => ?_, fun i hi => by rw [cr_uv, if_neg (by omega)]; exact bz i hi⟩
  · rw [cr_uv]
    by_cases h : 2 = c
    · rw [if_pos h]; exact hq h.symm
    · rw [if_neg h]; exact b2
  · rw [cr_uv, if_neg (by omega), cr_uv, if_neg (by omega), cr_uv, if_neg (by omega), cr_uv, if_neg (by omega), cr_uv, if_neg (by omega)]; exact bm j hj
  · rw [cr_uv, if_neg (by omega), cr_uv, if_neg (by omega), cr_uv, if_neg (by omega)]; exact br r hr
  · have li : cr_lie b i := by rw [cr_lie, cr_uv, if_neg (by omega)] at li; exact li
    have lj : cr_lie b j := by rw [cr_lie, cr_uv, if_neg (by omega)] at lj; exact lj
    rw [cr_uv, if_neg (by omega), cr_uv, if_neg (by omega), cr_uv, if_neg (by omega), cr_uv, if_neg (by omega)]
    exact bd i j hi hj hij li lj
def sp_nx (b : Nat → Int32) : Nat → Int32 := upd b 2 ((b 2 + (1 : Int32)) - (b 2 + (1 : Int32)) / (3 : Int32) * (3 : Int32))
theorem cr_nx_v {q : Nat} (h : q < 3) : (nI q + (1 : Int32)) - (nI q + (1 : Int32)) / (3 : Int32) * (3 : Int32) = nI ((q + 1) % 3) := by
  rw [cr_1, cr_L3, pk_rem (by omega) (by decide) (by decide)]
theorem cr_B_nx {b : Nat → Int32} {n k : Nat} (hB : cr_B b n k) : cr_B (sp_nx b) n k := by
  obtain ⟨q, hq, e⟩ := hB.2.2.2.2.1
  exact cr_B_u hB (by omega) (by omega) (fun _ => ⟨(q + 1) % 3, by omega, by rw [e]; exact cr_nx_v hq⟩)
theorem cr_next {a : Nat} {V : cr_Hp} {b : Nat → Int32} {n k : Nat} (hB : cr_B b n k) (hC : cr_C a V b n k) : ∃ W, f_X3_nextPlayer a V = some W ∧ cr_C a W (sp_nx b) n k ∧ ∀ c, c ≠ a → W c = V c := by
  obtain ⟨q, hq, e⟩ := hB.2.2.2.2.1
  have v4 : V a 4 = nI q := (hC.2.1 2 (by decide)).trans e
  unfold f_X3_nextPlayer sp_nx
  rw [v4, e, cr_nx_v hq, cr_lt_e, cr_lt_e, cr_1]
  by_cases h : q = 2
  · subst h
    rw [if_pos (by decide)]
    exact ⟨_, rfl, cr_C_set (c := 2) (v := 0) hB.1 hC (by omega), fun c hc => cr_pt_ne hc⟩
  · rw [cr_L2, if_neg (nI_ge (by omega) (by decide)), show (q + 1) % 3 = q + 1 by omega]
    exact ⟨_, rfl, cr_C_set (c := 2) hB.1 hC (by omega), fun c hc => cr_pt_ne hc⟩
/-- clear -/
theorem cr_B_0 : cr_B (fun _ => 0) 0 0 := ⟨by omega, by omega, rfl, rfl, ⟨0, by omega, rfl⟩, fun j hj => absurd hj (by omega), fun j hj => absurd hj (by omega), fun i j hi => absurd hi (by omega), fun _ _ => rfl⟩
theorem cr_wipe {V : cr_Hp} (hN : ∀ j, j < 12 → V (0 + 1 + 2 + j) 0 = nI j) : ∃ W, f_X3_wipe 0 V = some W ∧ cr_C 0 W (fun _ => 0) 0 0 ∧ ∀ c, 19 ≤ c → W c = V c := by
  obtain ⟨V1, e1, w1, w2⟩ := cr_invH (F := fun x W => f_X3_wipe_l10 0 x W) (V := V) (fun i W => (∀ c, 19 ≤ c → W c = V c) ∧ ∀ j, j < 12 → W (0 + 1 + 2 + j) 0 = nI j ∧ (j < i → W (0 + 1 + 2 + j) 6 = 0 ∧ W (0 + 1 + 2 + j) 5 = -1)) (fun W => (∀ c, 19 ≤ c → W c = V c) ∧ ∀ j, j < 12 → W (0 + 1 + 2 + j) 0 = nI j ∧ W (0 + 1 + 2 + j) 6 = 0 ∧ W (0 + 1 + 2 + j) 5 = -1) 12
    ⟨fun _ _ => rfl, fun j hj => ⟨hN j hj, fun h => absurd h (by omega)⟩⟩ (fun i hi W ⟨w1, w2⟩ => by
      unfold f_X3_wipe_l10
      rw [cr_L12, if_neg (nI_ge hi (by decide)), cr_gd_e (cr_ix_nI hi (by decide)), nI_clamp (by omega), cr_1, cr_lt_e, cr_lt_e]
      refine ⟨_, rfl, fun c hc => by rw [cr_pt_ne (by omega), cr_pt_ne (by omega)]; exact w1 c hc, fun j hj => ⟨?_, fun h => ?_⟩⟩
      · rw [cr_pv, if_neg (by omega), cr_pv, if_neg (by omega)]; exact (w2 j hj).1
      · by_cases hji : j = i
        · subst hji
          exact ⟨by rw [cr_pv, if_neg (by omega), cr_pv, if_pos (by omega)], by rw [cr_pv, if_pos (by omega)]⟩
        · rw [cr_pt_ne (by omega), cr_pt_ne (by omega)]
          exact (w2 j hj).2 (by omega))
    (fun W hW => ⟨W, by
      unfold f_X3_wipe_l10
      rw [cr_L12, if_pos (nI_le (Nat.le_refl 12) (by decide))], hW.1, fun j hj => ⟨(hW.2 j hj).1, (hW.2 j hj).2 hj⟩⟩) (by decide)
  obtain ⟨V2, e2, x1, x2, x3⟩ := cr_invH (F := fun x W => f_X3_wipe_l53 0 x W) (V := V1) (fun i W => (∀ c, 19 ≤ c → W c = V c) ∧ (∀ j, j < 12 → W (0 + 1 + 2 + j) 0 = nI j ∧ W (0 + 1 + 2 + j) 6 = 0 ∧ W (0 + 1 + 2 + j) 5 = -1) ∧ ∀ r, r < i → W (0 + 2 + 13 + r) 2 = 0) (fun W => (∀ c, 19 ≤ c → W c = V c) ∧ (∀ j, j < 12 → W (0 + 1 + 2 + j) 0 = nI j ∧ W (0 + 1 + 2 + j) 6 = 0 ∧ W (0 + 1 + 2 + j) 5 = -1) ∧ ∀ r, r < 4 → W (0 + 2 + 13 + r) 2 = 0) 4
    ⟨w1, w2, fun r hr => absurd hr (by omega)⟩ (fun i hi W ⟨w1, w2, w3⟩ => by
      unfold f_X3_wipe_l53
      rw [cr_L4, if_neg (nI_ge hi (by decide)), cr_gd_e (cr_ix_nI hi (by decide)), nI_clamp (by omega), cr_1, cr_lt_e]
      refine ⟨_, rfl, fun c hc => by rw [cr_pt_ne (by omega)]; exact w1 c hc, fun j hj => by rw [cr_pt_ne (by omega)]; exact w2 j hj, fun r hr => ?_⟩
      by_cases hji : r = i
      · subst hji
        rw [cr_pv, if_pos (by omega)]
      · rw [cr_pt_ne (by omega)]
        exact w3 r (by omega))
    (fun W hW => ⟨W, by
      unfold f_X3_wipe_l53
      rw [cr_L4, if_pos (nI_le (Nat.le_refl 4) (by decide))], hW⟩) (by decide)
  unfold f_X3_wipe
  rw [e1, cr_bd_some, e2, cr_bd_some]
  simp only [cr_lt_e]
  refine ⟨_, rfl, ⟨by omega, fun c hc => ?_, fun j hj => ?_, fun j hj => absurd hj (by omega), fun j hj => absurd hj (by omega), fun j _ hj => ?_, fun j hj => absurd hj (by omega), fun r _ hr => ?_⟩, fun c hc => ?_⟩
  · have ht : c = 0 ∨ c = 1 ∨ c = 2 ∨ c = 3 ∨ c = 4 ∨ c = 5 ∨ c = 6 ∨ c = 7 := by omega
    rcases ht with rfl | rfl | rfl | rfl | rfl | rfl | rfl | rfl <;> simp [cr_pv]
  · simp only [cr_pt_ne (show 0 + 1 + 2 + j ≠ 0 by omega)]
    exact (x2 j hj).1
  · simp only [cr_pt_ne (show 0 + 1 + 2 + j ≠ 0 by omega)]
    exact (x2 j hj).2
  · simp only [cr_pt_ne (show 0 + 2 + 13 + r ≠ 0 by omega)]
    exact x3 r hr
  · simp only [cr_pt_ne (show c ≠ 0 by omega)]
    exact x1 c hc
theorem cr_vpc : ∀ c : Fin 127, vp_nar .char (((nI c.val).toUInt32 % 65536).toInt32) = nI c.val := by decide +kernel
