/-! the class rolls -/
theorem sp_rs_co {b b' : Nat → Int32} {x y : Int32} (h : ∀ t, 68 ≤ t → b' t = b t) : ∀ k : Nat, sp_rs b' x y k = sp_rs b x y k
  | 0 => rfl
  | r + 1 => by
    have e : cr_out b' r x y ↔ cr_out b r x y := by
      unfold cr_out
      rw [h _ (by omega), h _ (by omega), h _ (by omega)]
    by_cases hc : cr_out b r x y
    · simp only [sp_rs, if_pos hc, if_pos (e.mpr hc)]
      exact sp_rs_co h r
    · simp only [sp_rs, if_neg hc, if_neg (fun h => hc (e.mp h))]
      rw [sp_rs_co h r]
def cr_RC (a : Nat) (V0 V : cr_Hp) (n k : Nat) (ra : Nat → Int32) (dx dy : Int32) (S h : Nat) (w : Int32) (ht : Nat → Bool) (b : Nat → Int32) : Prop :=
  cr_C a V b n k ∧ V 153 7 = nI S ∧ V 153 8 = dx ∧ V 153 9 = dy ∧ V 153 2 = nI h ∧ V 153 6 = w ∧ (∀ j, j < n → V (a + 1 + 2 + j) 8 = if ht j = true then 1 else 0) ∧ (∀ j, j < n → V (a + 1 + 2 + j) 7 = ra j) ∧ (V 153 0 = 0 ∧ V 153 1 = 0) ∧ ∀ c, c < a ∨ a + 19 ≤ c → c ≠ 153 → V c = V0 c
theorem cr_tw2 {p : Nat} {V : cr_Hp} (hp : p ≠ 153) : ∃ W, f_X5_turnAtWalls_b45 p V = some W ∧ (∀ c, c ≠ 153 → W c = V c) ∧ W 153 9 = sp_w (V p 2) (V 153 9) ∧ W 153 6 = sp_wc (V p 2) (V 153 9) (V 153 6) ∧ ∀ t, t ≠ 9 → t ≠ 6 → W 153 t = V 153 t := by
  have bad : ∃ W, f_X5_turnAtWalls_b71 V = some W ∧ (∀ c, c ≠ 153 → W c = V c) ∧ W 153 9 = -(V 153 9) ∧ W 153 6 = V 153 6 + 1 ∧ ∀ t, t ≠ 9 → t ≠ 6 → W 153 t = V 153 t := by
    unfold f_X5_turnAtWalls_b71
    rw [cr_lt_e, cr_lt_e]
    refine ⟨_, rfl, fun c hc => by rw [cr_pt_ne hc, cr_pt_ne hc], ?_, ?_, fun t t1 t2 => ?_⟩
    · rw [cr_pv, if_neg (by omega), cr_pv, if_pos (by omega)]
    · rw [cr_pv, if_pos (by omega), cr_pv, if_neg (by omega)]
    · rw [cr_pv, if_neg (by omega), cr_pv, if_neg (by omega)]
  unfold f_X5_turnAtWalls_b45 sp_w sp_wc
  by_cases h1 : V p 2 + V 153 9 < 0
  · rw [if_pos h1, if_neg (fun h => h.1 h1), if_neg (fun h => h.1 h1)]; exact bad
  · by_cases h2 : V p 2 + V 153 9 ≤ 30
    · rw [if_neg h1, if_pos h2, if_pos ⟨h1, cr_nlt.mpr h2⟩, if_pos ⟨h1, cr_nlt.mpr h2⟩]
      exact ⟨V, rfl, fun _ _ => rfl, rfl, rfl, fun _ _ _ => rfl⟩
    · rw [if_neg h1, if_neg h2, if_neg (fun h => h2 (cr_nlt.mp h.2)), if_neg (fun h => h2 (cr_nlt.mp h.2))]; exact bad
theorem cr_tw {p : Nat} {V : cr_Hp} (hp : p ≠ 153) : ∃ W, f_X5_turnAtWalls p V = some W ∧ (∀ c, c ≠ 153 → W c = V c) ∧ W 153 8 = sp_w (V p 1) (V 153 8) ∧ W 153 9 = sp_w (V p 2) (V 153 9) ∧ W 153 6 = sp_wc (V p 2) (V 153 9) (sp_wc (V p 1) (V 153 8) (V 153 6)) ∧ ∀ t, t ≠ 8 → t ≠ 9 → t ≠ 6 → W 153 t = V 153 t := by
  have bad : ∃ W, f_X5_turnAtWalls_b26 p V = some W ∧ (∀ c, c ≠ 153 → W c = V c) ∧ W 153 8 = -(V 153 8) ∧ W 153 9 = sp_w (V p 2) (V 153 9) ∧ W 153 6 = sp_wc (V p 2) (V 153 9) (V 153 6 + 1) ∧ ∀ t, t ≠ 8 → t ≠ 9 → t ≠ 6 → W 153 t = V 153 t := by
    unfold f_X5_turnAtWalls_b26
    rw [cr_lt_e, cr_lt_e]
    obtain ⟨W, e, w1, w2, w3, w4⟩ := cr_tw2 (p := p) (V := cr_pt (cr_pt V 153 8 (-(V 153 8))) 153 6 ((cr_pt V 153 8 (-(V 153 8)) 153 6) + (1 : Int32))) hp
    refine ⟨W, e, fun c hc => by rw [w1 c hc, cr_pt_ne hc, cr_pt_ne hc], ?_, ?_, ?_, fun t t1 t2 t3 => ?_⟩
    · rw [w4 _ (by omega) (by omega), cr_pv, if_neg (by omega), cr_pv, if_pos (by omega)]
    · rw [w2, cr_pt_ne hp, cr_pt_ne hp, cr_pv, if_neg (by omega), cr_pv, if_neg (by omega)]
    · rw [w3, cr_pt_ne hp, cr_pt_ne hp, cr_pv, if_neg (by omega), cr_pv, if_neg (by omega), cr_pv, if_pos (by omega), cr_pv, if_neg (by omega)]
    · rw [w4 _ (by omega) (by omega), cr_pv, if_neg (by omega), cr_pv, if_neg (by omega)]
  unfold f_X5_turnAtWalls
  rw [show sp_w (V p 1) (V 153 8) = if ¬ (V p 1 + V 153 8) < 0 ∧ ¬ (30 : Int32) < (V p 1 + V 153 8) then V 153 8 else -(V 153 8) from rfl, show sp_wc (V p 1) (V 153 8) (V 153 6) = if ¬ (V p 1 + V 153 8) < 0 ∧ ¬ (30 : Int32) < (V p 1 + V 153 8) then V 153 6 else V 153 6 + 1 from rfl]
  by_cases h1 : V p 1 + V 153 8 < 0
  · rw [if_pos h1, if_neg (fun h => h.1 h1), if_neg (fun h => h.1 h1)]; exact bad
  · by_cases h2 : V p 1 + V 153 8 ≤ 30
    · rw [if_neg h1, if_pos h2, if_pos ⟨h1, cr_nlt.mpr h2⟩, if_pos ⟨h1, cr_nlt.mpr h2⟩]
      obtain ⟨W, e, w1, w2, w3, w4⟩ := cr_tw2 (p := p) (V := V) hp
      exact ⟨W, e, w1, w4 _ (by omega) (by omega), w2, w3, fun t t1 t2 t3 => w4 t t2 t3⟩
    · rw [if_neg h1, if_neg h2, if_neg (fun h => h2 (cr_nlt.mp h.2)), if_neg (fun h => h2 (cr_nlt.mp h.2))]; exact bad
theorem cr_rth_step {a n k m S h i : Nat} {V0 V : cr_Hp} {ra : Nat → Int32} {dx dy w : Int32} {ht : Nat → Bool} {b : Nat → Int32} (ha : cr_pg a) (hK : sp_K n k m dx dy S h b) (hR : cr_RC a V0 V n k ra dx dy S h w ht b) (h1 : 1 ≤ S) (hi : i < 40) :
    (sp_at b (b (8 + 5 * m) + sp_w (b (8 + 5 * m)) dx) (b (8 + 5 * m + 1) + sp_w (b (8 + 5 * m + 1)) dy) n = 99 → ∃ W, f_X5_rollToHit_l16 a (a + 1 + 2 + m) (sp_rs b (b (8 + 5 * m)) (b (8 + 5 * m + 1)) k) (nI i) V = some (.inl (sp_rs b (b (8 + 5 * m) + sp_w (b (8 + 5 * m)) dx) (b (8 + 5 * m + 1) + sp_w (b (8 + 5 * m + 1)) dy) k, nI (i + 1), W)) ∧ cr_RC a V0 W n k ra (sp_w (b (8 + 5 * m)) dx) (sp_w (b (8 + 5 * m + 1)) dy) (S - 1 - sp_ct b k (b (8 + 5 * m)) (b (8 + 5 * m + 1)) (b (8 + 5 * m) + sp_w (b (8 + 5 * m)) dx) (b (8 + 5 * m + 1) + sp_w (b (8 + 5 * m + 1)) dy)) h (sp_wc (b (8 + 5 * m + 1)) dy (sp_wc (b (8 + 5 * m)) dx w)) ht (sp_mv b m (b (8 + 5 * m) + sp_w (b (8 + 5 * m)) dx) (b (8 + 5 * m + 1) + sp_w (b (8 + 5 * m + 1)) dy)) ∧ sp_K n k m (sp_w (b (8 + 5 * m)) dx) (sp_w (b (8 + 5 * m + 1)) dy) (S - 1 - sp_ct b k (b (8 + 5 * m)) (b (8 + 5 * m + 1)) (b (8 + 5 * m) + sp_w (b (8 + 5 * m)) dx) (b (8 + 5 * m + 1) + sp_w (b (8 + 5 * m + 1)) dy)) h (sp_mv b m (b (8 + 5 * m) + sp_w (b (8 + 5 * m)) dx) (b (8 + 5 * m + 1) + sp_w (b (8 + 5 * m + 1)) dy))) ∧
    (¬ sp_at b (b (8 + 5 * m) + sp_w (b (8 + 5 * m)) dx) (b (8 + 5 * m + 1) + sp_w (b (8 + 5 * m + 1)) dy) n = 99 → ∃ W, f_X5_rollToHit_l16 a (a + 1 + 2 + m) (sp_rs b (b (8 + 5 * m)) (b (8 + 5 * m + 1)) k) (nI i) V = some (.inr (.inl (a + 1 + 2 + sp_at b (b (8 + 5 * m) + sp_w (b (8 + 5 * m)) dx) (b (8 + 5 * m + 1) + sp_w (b (8 + 5 * m + 1)) dy) n, W))) ∧ cr_RC a V0 W n k ra (sp_w (b (8 + 5 * m)) dx) (sp_w (b (8 + 5 * m + 1)) dy) S h (sp_wc (b (8 + 5 * m + 1)) dy (sp_wc (b (8 + 5 * m)) dx w)) ht b ∧ sp_K n k m (sp_w (b (8 + 5 * m)) dx) (sp_w (b (8 + 5 * m + 1)) dy) S h b) := by
  obtain ⟨x, y, hx, hy, ex, ey, dx1, dy1⟩ := sp_K_turn hK
  obtain ⟨hB, hm, hS, hh, -, -⟩ := hK
  obtain ⟨hC, r7, r8, r9, r2, r6, rh, rr, r0, rf⟩ := hR
  have hn := hB.1
  have hk := hB.2.1
  obtain ⟨e1, e2, -, -⟩ := hC.2.2.2.1 m hm
  obtain ⟨W, eW, w1, w8, w9, w6, wo⟩ := cr_tw (p := a + 1 + 2 + m) (V := V) (by omega)
  rw [e1, r8] at w8
  rw [e2, r9] at w9
  rw [e1, e2, r8, r9, r6] at w6
  rw [← w8] at ex dx1 ⊢
  rw [← w9] at ey dy1 ⊢
  have hCW : cr_C a W b n k := cr_C_fr hn hk hC (fun c c1 c2 => w1 c (by omega))
  unfold f_X5_rollToHit_l16
  rw [cr_L40, if_neg (nI_ge hi (by decide)), r7, cr_L1, if_neg (nI_nlt h1 (by omega)), eW, cr_bd_some, cr_lt_e, cr_lt_e, w1 (a + 1 + 2 + m) (by omega), e1, e2]
  constructor
  · intro hat
    have ho := sp_at_n n (by omega) hat
    obtain ⟨c1, c2, c3⟩ := cr_cost (b := b) (X := b (8 + 5 * m)) (Y := b (8 + 5 * m + 1)) (x := b (8 + 5 * m) + W 153 8) (y := b (8 + 5 * m + 1) + W 153 9) hk
    have c4 := cr_cost_c ⟨S, by omega⟩ ⟨_, Nat.lt_succ_of_le c3⟩ h1
    rw [cr_marbleOn_n hB hCW ho, cr_bd_some, cr_on_0, cr_ringsAround hB hCW, cr_bd_some, c1, cr_bd_some, cr_lt_e, cr_lt_e, cr_lt_e, cr_lt_e, nI_add, wo 7 (by omega) (by omega) (by omega), r7]
    have c5 : (if (0 : Int32) < ((nI S - nI 1) - nI (sp_ct b k (b (8 + 5 * m)) (b (8 + 5 * m + 1)) (b (8 + 5 * m) + W 153 8) (b (8 + 5 * m + 1) + W 153 9))) then ((nI S - nI 1) - nI (sp_ct b k (b (8 + 5 * m)) (b (8 + 5 * m + 1)) (b (8 + 5 * m) + W 153 8) (b (8 + 5 * m + 1) + W 153 9))) else (0 : Int32)) = nI (S - 1 - sp_ct b k (b (8 + 5 * m)) (b (8 + 5 * m + 1)) (b (8 + 5 * m) + W 153 8) (b (8 + 5 * m + 1) + W 153 9)) := c4
    rw [c5]
    have hK2 : sp_K n k m (W 153 8) (W 153 9) (S - 1 - sp_ct b k (b (8 + 5 * m)) (b (8 + 5 * m + 1)) (b (8 + 5 * m) + W 153 8) (b (8 + 5 * m + 1) + W 153 9)) h (sp_mv b m (b (8 + 5 * m) + W 153 8) (b (8 + 5 * m + 1) + W 153 9)) := by
      refine ⟨?_, hm, by omega, hh, dx1, dy1⟩
      rw [ex, ey]
      exact cr_B_mv hB hm hx hy (by rw [← ex, ← ey]; exact ho)
    refine ⟨_, rfl, ⟨?_, ?_, ?_, ?_, ?_, ?_, fun j hj => ?_, fun j hj => ?_, ?_, fun c c1 c2 => ?_⟩, hK2⟩
    · exact cr_C_mv hn (cr_C_fr hn hk hCW (fun c c1 c2 => cr_pt_ne (by omega))) hm
    · rw [cr_pt_ne (by omega), cr_pt_ne (by omega), cr_pv, if_pos (by omega)]
    · rw [cr_pt_ne (by omega), cr_pt_ne (by omega), cr_pv, if_neg (by omega)]
    · rw [cr_pt_ne (by omega), cr_pt_ne (by omega), cr_pv, if_neg (by omega)]
    · rw [cr_pt_ne (by omega), cr_pt_ne (by omega), cr_pv, if_neg (by omega), wo 2 (by omega) (by omega) (by omega)]; exact r2
    · rw [cr_pt_ne (by omega), cr_pt_ne (by omega), cr_pv, if_neg (by omega)]; exact w6
    · rw [cr_pv, if_neg (by omega), cr_pv, if_neg (by omega), cr_pt_ne (by omega), w1 _ (by omega)]; exact rh j hj
    · rw [cr_pv, if_neg (by omega), cr_pv, if_neg (by omega), cr_pt_ne (by omega), w1 _ (by omega)]; exact rr j hj
    · rw [cr_pt_ne (by omega), cr_pt_ne (by omega), cr_pv, if_neg (by omega), cr_pv, if_neg (by omega), wo 0 (by omega) (by omega) (by omega), wo 1 (by omega) (by omega) (by omega)]; exact r0
    · rw [cr_pt_ne (by omega), cr_pt_ne (by omega), cr_pt_ne (by omega), w1 _ (by omega)]; exact rf c c1 c2
  · intro hat
    obtain ⟨o1, o2⟩ := sp_at_s n hat
    rw [cr_marbleOn_s hB hCW o1 o2, cr_bd_some, cr_on_1, cr_gd_e (cr_ms_ma (cr_pg_ms ha) (by omega))]
    refine ⟨_, rfl, ⟨hCW, ?_, rfl, rfl, ?_, w6, fun j hj => ?_, fun j hj => ?_, ?_, fun c c1 c2 => ?_⟩, ⟨hB, hm, hS, hh, dx1, dy1⟩⟩
    · rw [wo 7 (by omega) (by omega) (by omega)]; exact r7
    · rw [wo 2 (by omega) (by omega) (by omega)]; exact r2
    · rw [w1 _ (by omega)]; exact rh j hj
    · rw [w1 _ (by omega)]; exact rr j hj
    · rw [wo 0 (by omega) (by omega) (by omega), wo 1 (by omega) (by omega) (by omega)]; exact r0
    · rw [w1 _ c2]; exact rf c c1 c2
