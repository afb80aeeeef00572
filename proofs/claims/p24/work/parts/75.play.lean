/-! a flick of the class, whole -/
theorem cr_take {a n k p : Nat} {V : cr_Hp} {b ra : Nat → Int32} {ht : Nat → Bool} (ha : cr_pg a) (hB : cr_B b n k) (hC : cr_C a V b n k) (hp : p < 3) (h8 : ∀ j, j < n → V (a + 1 + 2 + j) 8 = if ht j = true then 1 else 0) (h7 : ∀ j, j < n → V (a + 1 + 2 + j) 7 = ra j) (h0 : V 153 0 = 0) (h1 : V 153 1 = 0) :
    ∃ W, cr_it (fun (q : Int32 × Int32 × cr_Hp) => f_X5_takeWinnings_l5 a (nI p) q.1 q.2.1 q.2.2) cr_FU ((0 : Int32), (0 : Int32), V) = some ((sp_tk k (nI p) ra ht b n).1, W) ∧ cr_C a W (sp_tk k (nI p) ra ht b n).2.2.2 n k ∧ W 153 0 = (sp_tk k (nI p) ra ht b n).2.1 ∧ W 153 1 = (sp_tk k (nI p) ra ht b n).2.2.1 ∧ (∀ t, 2 ≤ t → W 153 t = V 153 t) ∧ ∀ c, c < a ∨ a + 19 ≤ c → c ≠ 153 → W c = V c := by
  have hn := hB.1
  have hk := hB.2.1
  obtain ⟨r, e, hr⟩ := cr_invG (F := fun g x W => f_X5_takeWinnings_l5 a (nI p) g x W) (g0 := 0) (V := V) (fun i g W => g = (sp_tk k (nI p) ra ht b i).1 ∧ cr_C a W (sp_tk k (nI p) ra ht b i).2.2.2 n k ∧ W 153 0 = (sp_tk k (nI p) ra ht b i).2.1 ∧ W 153 1 = (sp_tk k (nI p) ra ht b i).2.2.1 ∧ (∀ t, 2 ≤ t → W 153 t = V 153 t) ∧ (∀ c, c < a ∨ a + 19 ≤ c → c ≠ 153 → W c = V c) ∧ (∀ j, j < n → W (a + 1 + 2 + j) 8 = V (a + 1 + 2 + j) 8) ∧ ∀ j, j < n → W (a + 1 + 2 + j) 7 = V (a + 1 + 2 + j) 7) (fun r => r.1 = (sp_tk k (nI p) ra ht b n).1 ∧ cr_C a r.2 (sp_tk k (nI p) ra ht b n).2.2.2 n k ∧ r.2 153 0 = (sp_tk k (nI p) ra ht b n).2.1 ∧ r.2 153 1 = (sp_tk k (nI p) ra ht b n).2.2.1 ∧ (∀ t, 2 ≤ t → r.2 153 t = V 153 t) ∧ ∀ c, c < a ∨ a + 19 ≤ c → c ≠ 153 → r.2 c = V c) n
    ⟨rfl, hC, h0, h1, fun _ _ => rfl, fun _ _ _ => rfl, fun _ _ => rfl, fun _ _ => rfl⟩ (fun i hi g W ⟨w1, w2, w3, w4, w5, w6, w7, w8⟩ => by
      have hBi := sp_tk_B (ra := ra) (ht := ht) hB hp i (by omega)
      have v2 : W a 2 = nI n := (w2.2.1 0 (by decide)).trans hBi.2.2.1
      have hma : cr_ma (a + 1 + 2 + i) := cr_ms_ma (cr_pg_ms ha) (by omega)
      have q7 : W (a + 1 + 2 + i) 7 = ra i := (w8 i hi).trans (h7 i hi)
      have q8 : W (a + 1 + 2 + i) 8 = if ht i = true then 1 else 0 := (w7 i hi).trans (h8 i hi)
      obtain ⟨-, -, q3, -⟩ := w2.2.2.2.1 i hi
      subst w1
      unfold f_X5_takeWinnings_l5
      rw [v2, if_neg (nI_ge hi (by omega)), cr_find_s hBi w2 hi, cr_bd_some, cr_on_1, cr_gd_e hma, cr_isWon hBi w2 hi q8 q7, cr_bd_some, cr_1]
      by_cases hw : sp_won k (nI p) ra ht (sp_tk k (nI p) ra ht b i).2.2.2 i
      · have es : sp_tk k (nI p) ra ht b (i + 1) = ((sp_tk k (nI p) ra ht b i).1 ||| ra i, (sp_tk k (nI p) ra ht b i).2.1 + 1, (sp_tk k (nI p) ra ht b i).2.2.1 + (sp_tk k (nI p) ra ht b i).2.2.2 (8 + 5 * i + 2), upd (sp_tk k (nI p) ra ht b i).2.2.2 (8 + 5 * i + 4) (nI p)) := by
          rw [sp_tk, if_pos hw]
        have e0 : cr_pt (cr_pt W (a + 1 + 2 + i) 6 0) (a + 1 + 2 + i) 5 (nI p) 153 0 = W 153 0 := by rw [cr_pt_ne (by omega), cr_pt_ne (by omega)]
        have hCw := cr_C_win (p := p) hn w2 hi hp
        rw [if_pos hw, if_neg (by decide), cr_lt_e, cr_lt_e, cr_lt_e, cr_lt_e, cr_lt_e, es]
        refine ⟨_, _, rfl, ?_, cr_C_fr hn hk hCw (fun c c1 c2 => by rw [cr_pt_ne (by omega), cr_pt_ne (by omega)]), ?_, ?_, fun t ht => ?_, fun c c1 c2 => ?_, fun j hj => ?_, fun j hj => ?_⟩
        · rw [cr_pt_ne (by omega), cr_pt_ne (by omega), cr_pv, if_neg (by omega), cr_pv, if_neg (by omega), q7]
        · rw [cr_pv, if_neg (by omega), cr_pv, if_pos (by omega), e0, w3]
        · rw [cr_pv, if_pos (by omega), cr_pv, if_neg (by omega), cr_pt_ne (by omega), cr_pt_ne (by omega), cr_pt_ne (show a + 1 + 2 + i ≠ 153 by omega), cr_pv, if_neg (by omega), cr_pv, if_neg (by omega), w4, q3]
        · rw [cr_pv, if_neg (by omega), cr_pv, if_neg (by omega), cr_pt_ne (by omega), cr_pt_ne (by omega)]; exact w5 t ht
        · rw [cr_pt_ne c2, cr_pt_ne c2, cr_pt_ne (by omega), cr_pt_ne (by omega)]; exact w6 c c1 c2
        · rw [cr_pt_ne (by omega), cr_pt_ne (by omega), cr_pv, if_neg (by omega), cr_pv, if_neg (by omega)]; exact w7 j hj
        · rw [cr_pt_ne (by omega), cr_pt_ne (by omega), cr_pv, if_neg (by omega), cr_pv, if_neg (by omega)]; exact w8 j hj
      · have es : sp_tk k (nI p) ra ht b (i + 1) = sp_tk k (nI p) ra ht b i := by rw [sp_tk, if_neg hw]
        rw [if_neg hw, if_pos rfl, es]
        exact ⟨_, _, rfl, rfl, w2, w3, w4, w5, w6, w7, w8⟩)
    (fun g W ⟨w1, w2, w3, w4, w5, w6, w7, w8⟩ => by
      have hBi := sp_tk_B (ra := ra) (ht := ht) hB hp n (by omega)
      have v2 : W a 2 = nI n := (w2.2.1 0 (by decide)).trans hBi.2.2.1
      refine ⟨(g, W), ?_, w1, w2, w3, w4, w5, w6⟩
      unfold f_X5_takeWinnings_l5
      rw [v2, if_pos (nI_le (Nat.le_refl n) (by omega))]) (by omega)
  obtain ⟨r1, r2⟩ := r
  obtain ⟨g1, g2, g3, g4, g5, g6⟩ := hr
  have g1 : r1 = (sp_tk k (nI p) ra ht b n).1 := g1
  subst g1
  exact ⟨r2, e, g2, g3, g4, g5, g6⟩
/-- rings grow -/
abbrev sp_bit (g : Int32) (r : Nat) : Prop := ((g >>> (nI r &&& 31)) &&& (1 : Int32)) = (1 : Int32)
def sp_gw (g : Int32) (b : Nat → Int32) : Nat → Nat → Int32
  | 0 => b
  | r + 1 => if sp_bit g r ∧ ¬ (15 : Int32) ≤ sp_gw g b r (68 + 3 * r + 2) then upd (upd (sp_gw g b r) (68 + 3 * r + 2) (sp_gw g b r (68 + 3 * r + 2) + 1)) 6 (sp_gw g b r 6 + 1) else sp_gw g b r
theorem cr_B_gw {b : Nat → Int32} {n k r : Nat} {v : Int32} (hB : cr_B b n k) (hr : r < k) (h15 : ¬ (15 : Int32) ≤ b (68 + 3 * r + 2)) : cr_B (upd (upd b (68 + 3 * r + 2) (b (68 + 3 * r + 2) + 1)) 6 v) n k := by
  refine cr_B_u ?_ (by omega) (by omega) (fun h => absurd h (by omega))
  obtain ⟨hn, hk, b0, b1, b2, bm, br, bd, bz⟩ := hB
  refine ⟨hn, hk, by rw [cr_uv, if_neg (by omega)]; exact b0, by rw [cr_uv, if_neg (by omega)]; exact b1, by rw [cr_uv, if_neg (by omega)]; exact b2, fun i hi => ?_, fun i hi => ?_, fun i i2 hi hi2 hij li lj => ?_, fun i hi => by rw [cr_uv, if_neg (by omega)]; exact bz i hi⟩
  · rw [cr_uv, if_neg (by omega), cr_uv, if_neg (by omega), cr_uv, if_neg (by omega), cr_uv, if_neg (by omega), cr_uv, if_neg (by omega)]; exact bm i hi
  · obtain ⟨x, y, d, hx, hy, h1, h2, ex, ey, ed⟩ := br i hi
    rw [cr_uv, if_neg (by omega), cr_uv, if_neg (by omega), cr_uv]
    by_cases h : i = r
    · subst h
      rw [if_pos rfl, ed, cr_1]
      rw [ed] at h15
      refine ⟨x, y, d + 1, hx, hy, by omega, ?_, ex, ey, rfl⟩
      rcases Nat.lt_or_ge d 15 with h | h
      · omega
      · exact absurd (show (15 : Int32) ≤ nI d from nI_le (a := 15) h (by omega)) h15
    · rw [if_neg (by omega)]
      exact ⟨x, y, d, hx, hy, h1, h2, ex, ey, ed⟩
  · have li : cr_lie b i := by rw [cr_lie, cr_uv, if_neg (by omega)] at li; exact li
    have lj : cr_lie b i2 := by rw [cr_lie, cr_uv, if_neg (by omega)] at lj; exact lj
    rw [cr_uv, if_neg (by omega), cr_uv, if_neg (by omega), cr_uv, if_neg (by omega), cr_uv, if_neg (by omega)]
    exact bd i i2 hi hi2 hij li lj
theorem cr_C_gr {a r : Nat} {V : cr_Hp} {b : Nat → Int32} {n k : Nat} {v : Int32} (hn : n ≤ 12) (hk : k ≤ 4) (hC : cr_C a V b n k) (hr : r < k) : cr_C a (cr_pt V (a + 2 + 13 + r) 2 v) (upd b (68 + 3 * r + 2) v) n k := by
  obtain ⟨c1, c2, c3, c4, c5, c6, c7, c8⟩ := hC
  refine ⟨c1, fun c hc => ?_, fun i hi => ?_, fun i hi => ?_, fun i hi => ?_, fun i hi hi2 => ?_, fun i hi => ?_, fun i hi hr4 => ?_⟩
  · rw [cr_pt_ne (by omega), cr_uv, if_neg (by omega)]; exact c2 c hc
  · rw [cr_pt_ne (by omega)]; exact c3 i hi
  · rw [cr_pt_ne (by omega), cr_uv, if_neg (by omega), cr_uv, if_neg (by omega), cr_uv, if_neg (by omega), cr_uv, if_neg (by omega)]; exact c4 i hi
  · rw [cr_pt_ne (by omega), cr_lie, cr_uv, if_neg (by omega)]; exact c5 i hi
  · rw [cr_pt_ne (by omega)]; exact c6 i hi hi2
  · rw [cr_uv, if_neg (by omega), cr_uv, if_neg (by omega), cr_pv, if_neg (by omega), cr_pv, if_neg (by omega), cr_pv, cr_uv]
    obtain ⟨d0, d1, d2⟩ := c7 i hi
    refine ⟨d0, d1, ?_⟩
    by_cases h : i = r
    · rw [if_pos (by omega), if_pos (by omega)]
    · rw [if_neg (by omega), if_neg (by omega)]; exact d2
  · rw [cr_pt_ne (by omega)]; exact c8 i hi hr4
theorem sp_gw_B {g : Int32} {b : Nat → Int32} {n k : Nat} (hB : cr_B b n k) : ∀ r, r ≤ k → cr_B (sp_gw g b r) n k
  | 0, _ => hB
  | r + 1, h => by
    have ih := sp_gw_B (g := g) hB r (by omega)
    unfold sp_gw
    by_cases hc : sp_bit g r ∧ ¬ (15 : Int32) ≤ sp_gw g b r (68 + 3 * r + 2)
    · rw [if_pos hc]; exact cr_B_gw ih (by omega) hc.2
    · rw [if_neg hc]; exact ih
theorem cr_grow {a n k v : Nat} {V : cr_Hp} {b : Nat → Int32} (ha : cr_pg a) (hB : cr_B b n k) (hC : cr_C a V b n k) (hv : v < 2 ^ k) : ∃ W, f_X3_growRings a (nI v) V = some W ∧ cr_C a W (sp_gw (nI v) b k) n k ∧ ∀ c, c < a ∨ a + 19 ≤ c → W c = V c := by
  have hn := hB.1
  have hk := hB.2.1
  have h16 : 2 ^ k ≤ 2 ^ 4 := Nat.pow_le_pow_right (by decide) hk
  unfold f_X3_growRings
  obtain ⟨V1, e1, h1⟩ := cr_invH (F := fun x W => f_X3_growRings_l2 a (nI v) x W) (V := V) (fun i W => cr_C a W (sp_gw (nI v) b (min i k)) n k ∧ ∀ c, c < a ∨ a + 19 ≤ c → W c = V c) (fun W => cr_C a W (sp_gw (nI v) b k) n k ∧ ∀ c, c < a ∨ a + 19 ≤ c → W c = V c) 4
    ⟨by rw [Nat.zero_min]; exact hC, fun _ _ => rfl⟩ (fun i hi W ⟨w1, w2⟩ => by
      unfold f_X3_growRings_l2
      rw [cr_L4, if_neg (nI_ge hi (by decide)), cr_gd_e (cr_ix_nI hi (by decide)), nI_clamp (by omega), cr_1]
      rcases Nat.lt_or_ge i k with h | h
      · rw [Nat.min_eq_left (by omega)] at w1
        rw [Nat.min_eq_left (by omega)]
        obtain ⟨-, -, d2⟩ := w1.2.2.2.2.2.2.1 i h
        have d6 : W a 8 = sp_gw (nI v) b i 6 := w1.2.1 6 (by decide)
        rw [d2]
        by_cases hb : sp_bit (nI v) i
        · by_cases h15 : (15 : Int32) ≤ sp_gw (nI v) b i (68 + 3 * i + 2)
          · rw [if_pos hb, if_pos h15, sp_gw, if_neg (fun h => h.2 h15)]
            exact ⟨W, rfl, w1, w2⟩
          · rw [if_pos hb, if_neg h15, sp_gw, if_pos ⟨hb, h15⟩, cr_lt_e, cr_lt_e, cr_pt_ne (show a ≠ a + 2 + 13 + i by omega), d6]
            exact ⟨_, rfl, cr_C_set (c := 6) hn (cr_C_gr hn hk w1 h) (by omega), fun c hc => by rw [cr_pt_ne (by omega), cr_pt_ne (by omega)]; exact w2 c hc⟩
        · rw [if_neg hb, sp_gw, if_neg (fun h => hb h.1)]
          exact ⟨W, rfl, w1, w2⟩
      · rw [Nat.min_eq_right (by omega)] at w1
        rw [Nat.min_eq_right (by omega), if_neg (cr_bit0 ⟨k, by omega⟩ ⟨v, by omega⟩ hv ⟨i, hi⟩ h)]
        exact ⟨W, rfl, w1, w2⟩)
    (fun W hW => ⟨W, by
      unfold f_X3_growRings_l2
      rw [cr_L4, if_pos (nI_le (Nat.le_refl 4) (by decide))], by rw [Nat.min_eq_right hk] at hW; exact hW⟩) (by decide)
  rw [e1, cr_bd_some]
  exact ⟨V1, rfl, h1⟩
/-- the numbers of the game after a flick -/
def sp_nu (b : Nat → Int32) (h w c : Int32) : Nat → Int32 := upd (upd (upd (upd b 3 (b 3 + 1)) 4 (b 4 + h)) 7 (b 7 + w)) 5 (b 5 + c)
theorem cr_B_nu {b : Nat → Int32} {n k : Nat} {h w c : Int32} (hB : cr_B b n k) : cr_B (sp_nu b h w c) n k :=
  cr_B_u (cr_B_u (cr_B_u (cr_B_u hB (by omega) (by omega) (fun h => absurd h (by omega))) (by omega) (by omega) (fun h => absurd h (by omega))) (by omega) (by omega) (fun h => absurd h (by omega))) (by omega) (by omega) (fun h => absurd h (by omega))
/-- the board after a flick whose roll has ended: (won, sizes, board before the turn passes on) -/
def sp_af (k n : Nat) (P : Int32) (b0 : Nat → Int32) (h : Nat) (w : Int32) (ht : Nat → Bool) (b : Nat → Int32) : Nat → Int32 := sp_nu (sp_gw (sp_tk k P (sp_ra b0 k) ht b n).1 (sp_tk k P (sp_ra b0 k) ht b n).2.2.2 k) (nI h) w (sp_tk k P (sp_ra b0 k) ht b n).2.1
theorem cr_B_af {b0 b : Nat → Int32} {n k p h : Nat} {w : Int32} {ht : Nat → Bool} (hB : cr_B b n k) (hp : p < 3) : cr_B (sp_af k n (nI p) b0 h w ht b) n k := cr_B_nu (sp_gw_B (sp_tk_B hB hp n (Nat.le_refl n)) k (Nat.le_refl k))
theorem cr_d_sx : ∀ d : Fin 8, sp_d (cr_sx d.val) ∧ sp_d (cr_sy d.val) := by decide
theorem cr_play {a n k j d S p : Nat} {V : cr_Hp} {b : Nat → Int32} (hB : cr_B b n k) (hC : cr_C a V b n k) (hj : j < n) (hd : d < 8) (hS : S ≤ 40) (hp : p < 3) (ho : b (8 + 5 * j + 3) = nI p) :
    ∃ m dx dy S' h w ht b1 W, sp_E n k (j, cr_sx d, cr_sy d, S, 0, 0, fun _ => false, b) (m, dx, dy, S', h, w, ht, b1) ∧ sp_K n k m dx dy S' h b1 ∧ f_X5_play a (nI j) (nI d) (nI S) V = some W ∧
      cr_C a W (if (sp_tk k (nI p) (sp_ra b k) ht b1 n).2.1 = 0 then sp_nx (sp_af k n (nI p) b h w ht b1) else sp_af k n (nI p) b h w ht b1) n k ∧ W 153 0 = (sp_tk k (nI p) (sp_ra b k) ht b1 n).2.1 ∧ W 153 1 = (sp_tk k (nI p) (sp_ra b k) ht b1 n).2.2.1 ∧ W 153 2 = nI h ∧ W 153 3 = nI m ∧ W 153 4 = b1 (8 + 5 * m) ∧ W 153 5 = b1 (8 + 5 * m + 1) ∧ ∀ c, c < a ∨ a + 19 ≤ c → c ≠ 153 → W c = V c := by
  have ha := hC.1
  have hn := hB.1
  have hk := hB.2.1
  have hma : cr_ma (a + 1 + 2 + j) := cr_ms_ma (cr_pg_ms ha) (by omega)
  unfold f_X5_play
  rw [cr_lt_e, cr_lt_e, cr_lt_e, cr_lt_e, cr_lt_e, cr_stepX hd, cr_bd_some, cr_lt_e, cr_stepY hd, cr_bd_some, cr_lt_e]
  obtain ⟨V1, eV1⟩ : ∃ V1, V1 = cr_pt (cr_pt (cr_pt (cr_pt (cr_pt (cr_pt (cr_pt V 153 0 (0 : Int32)) 153 1 (0 : Int32)) 153 2 (0 : Int32)) 153 6 (0 : Int32)) 153 7 (nI S)) 153 8 (cr_sx d)) 153 9 (cr_sy d) := ⟨_, rfl⟩
  rw [← eV1]
  have f1 : ∀ c, c ≠ 153 → V1 c = V c := fun c hc => by rw [eV1, cr_pt_ne hc, cr_pt_ne hc, cr_pt_ne hc, cr_pt_ne hc, cr_pt_ne hc, cr_pt_ne hc, cr_pt_ne hc]
  have g0 : V1 153 0 = 0 := by rw [eV1]; simp [cr_pv]
  have g1 : V1 153 1 = 0 := by rw [eV1]; simp [cr_pv]
  have g2 : V1 153 2 = 0 := by rw [eV1]; simp [cr_pv]
  have g6 : V1 153 6 = 0 := by rw [eV1]; simp [cr_pv]
  have g7 : V1 153 7 = nI S := by rw [eV1]; simp [cr_pv]
  have g8 : V1 153 8 = cr_sx d := by rw [eV1]; simp [cr_pv]
  have g9 : V1 153 9 = cr_sy d := by rw [eV1]; simp [cr_pv]
  have hC1 : cr_C a V1 b n k := cr_C_fr hn hk hC (fun c c1 c2 => f1 c (by omega))
  obtain ⟨V2, e2, hC2, m2, f2⟩ := cr_mark hB hC1
  rw [cr_find_s hB hC1 hj, cr_bd_some, cr_on_1, cr_gd_e hma, e2, cr_bd_some]
  have hK : sp_K n k j (cr_sx d) (cr_sy d) S 0 b := ⟨hB, hj, hS, by omega, (cr_d_sx ⟨d, hd⟩).1, (cr_d_sx ⟨d, hd⟩).2⟩
  have hR : cr_RC a V V2 n k (sp_ra b k) (cr_sx d) (cr_sy d) S 0 0 (fun _ => false) b := ⟨hC2, by rw [f2 _ (by omega)]; exact g7, by rw [f2 _ (by omega)]; exact g8, by rw [f2 _ (by omega)]; exact g9, by rw [f2 _ (by omega)]; exact g2, by rw [f2 _ (by omega)]; exact g6, fun j hj => by rw [(m2 j hj).2]; rfl, fun j hj => (m2 j hj).1, by rw [f2 _ (by omega)]; exact ⟨g0, g1⟩, fun c c1 c2 => by rw [f2 c c1, f1 c c2]⟩
  obtain ⟨m, dx, dy, S', h, w, ht, b1, V3, zE, e3, zR, zK, x3, x4, x5⟩ := cr_rollAll ha hK hR
  obtain ⟨hC3, y7, y8, y9, y2, y6, yh, yr, y0, yf⟩ := zR
  have eo : V3 (a + 1 + 2 + j) 4 = nI p := by
    obtain ⟨-, -, -, q4⟩ := hC3.2.2.2.1 j hj
    rw [q4, sp_E_inv zE (fun i => ⟨by omega, by omega⟩)]; exact ho
  rw [e3, cr_bd_some, eo]
  obtain ⟨V4, e4, hC4, t0, t1, t2, tf⟩ := cr_take ha zK.1 hC3 hp yh yr y0.1 y0.2
  have hB4 := sp_tk_B (ra := sp_ra b k) (ht := ht) zK.1 hp n (Nat.le_refl n)
  obtain ⟨v, v1, v2⟩ := sp_tk_g (P := nI p) (ht := ht) (b := b1) hk (fun j => sp_ra_lt (b := b) (j := j) hk) n
  rw [v2] at e4
  obtain ⟨V5, e5, hC5, f5⟩ := cr_grow ha hB4 hC4 v1
  have eT : f_X5_takeWinnings a (nI p) V3 = some V5 := by
    unfold f_X5_takeWinnings
    rw [e4, cr_bd_some]
    show cr_bd (f_X3_growRings a (nI v) V4) _ = _
    rw [e5, cr_bd_some]
  rw [eT, cr_bd_some, cr_lt_e, cr_lt_e, cr_lt_e, cr_lt_e]
  obtain ⟨B5, eB5⟩ : ∃ B5, B5 = sp_gw (nI v) (sp_tk k (nI p) (sp_ra b k) ht b1 n).2.2.2 k := ⟨_, rfl⟩
  rw [← eB5] at hC5
  have hB5 : cr_B B5 n k := by rw [eB5]; exact sp_gw_B hB4 k (Nat.le_refl k)
  have s3 : V5 a 5 = B5 3 := hC5.2.1 3 (by decide)
  have s4 : V5 a 6 = B5 4 := hC5.2.1 4 (by decide)
  have s7 : V5 a 9 = B5 7 := hC5.2.1 7 (by decide)
  have s5 : V5 a 7 = B5 5 := hC5.2.1 5 (by decide)
  have r0 : V5 153 0 = (sp_tk k (nI p) (sp_ra b k) ht b1 n).2.1 := by rw [f5 _ (by omega)]; exact t0
  have r1 : V5 153 1 = (sp_tk k (nI p) (sp_ra b k) ht b1 n).2.2.1 := by rw [f5 _ (by omega)]; exact t1
  have r2 : V5 153 2 = nI h := by rw [f5 _ (by omega), t2 2 (by omega)]; exact y2
  have r3 : V5 153 3 = nI m := by rw [f5 _ (by omega), t2 3 (by omega)]; exact x3
  have r4 : V5 153 4 = b1 (8 + 5 * m) := by rw [f5 _ (by omega), t2 4 (by omega)]; exact x4
  have r5 : V5 153 5 = b1 (8 + 5 * m + 1) := by rw [f5 _ (by omega), t2 5 (by omega)]; exact x5
  have r6 : V5 153 6 = w := by rw [f5 _ (by omega), t2 6 (by omega)]; exact y6
  have n153 : (153 : Nat) ≠ a := by omega
  have u6 : cr_pt V5 a 5 (B5 3 + (1 : Int32)) a 6 = B5 4 := by rw [cr_pv, if_neg (by omega)]; exact s4
  have u9 : cr_pt (cr_pt V5 a 5 (B5 3 + (1 : Int32))) a 6 (B5 4 + nI h) a 9 = B5 7 := by rw [cr_pv, if_neg (by omega), cr_pv, if_neg (by omega)]; exact s7
  have u7 : cr_pt (cr_pt (cr_pt V5 a 5 (B5 3 + (1 : Int32))) a 6 (B5 4 + nI h)) a 9 (B5 7 + w) a 7 = B5 5 := by rw [cr_pv, if_neg (by omega), cr_pv, if_neg (by omega), cr_pv, if_neg (by omega)]; exact s5
  simp only [cr_pt_ne n153, r2, r6, r0, s3, u6, u9, u7]
  have hC6 : cr_C a (cr_pt (cr_pt (cr_pt (cr_pt V5 a 5 (B5 3 + (1 : Int32))) a 6 (B5 4 + nI h)) a 9 (B5 7 + w)) a 7 (B5 5 + (sp_tk k (nI p) (sp_ra b k) ht b1 n).2.1)) (sp_af k n (nI p) b h w ht b1) n k := by
    unfold sp_af
    rw [v2, ← eB5]
    exact cr_C_set (c := 5) hn (cr_C_set (c := 7) hn (cr_C_set (c := 4) hn (cr_C_set (c := 3) hn hC5 (by omega)) (by omega)) (by omega)) (by omega)
  have hB6 : cr_B (sp_af k n (nI p) b h w ht b1) n k := cr_B_af zK.1 hp
  obtain ⟨V6, eV6⟩ : ∃ V6, V6 = cr_pt (cr_pt (cr_pt (cr_pt V5 a 5 (B5 3 + (1 : Int32))) a 6 (B5 4 + nI h)) a 9 (B5 7 + w)) a 7 (B5 5 + (sp_tk k (nI p) (sp_ra b k) ht b1 n).2.1) := ⟨_, rfl⟩
  rw [← eV6] at hC6 ⊢
  have f6 : ∀ c, c ≠ a → V6 c = V5 c := fun c hc => by rw [eV6, cr_pt_ne hc, cr_pt_ne hc, cr_pt_ne hc, cr_pt_ne hc]
  have f7 : ∀ c, c < a ∨ a + 19 ≤ c → c ≠ 153 → V5 c = V c := fun c c1 c2 => by rw [f5 c c1, tf c c1 c2, yf c c1 c2]
  by_cases h0 : (sp_tk k (nI p) (sp_ra b k) ht b1 n).2.1 = 0
  · obtain ⟨V7, e7, hC7, f8⟩ := cr_next hB6 hC6
    rw [if_pos h0, e7, cr_bd_some]
    refine ⟨m, dx, dy, S', h, w, ht, b1, V7, zE, zK, rfl, ?_, ?_, ?_, ?_, ?_, ?_, ?_, fun c c1 c2 => ?_⟩
    · rw [if_pos h0]; exact hC7
    · rw [f8 _ (by omega), f6 _ (by omega)]; exact r0
    · rw [f8 _ (by omega), f6 _ (by omega)]; exact r1
    · rw [f8 _ (by omega), f6 _ (by omega)]; exact r2
    · rw [f8 _ (by omega), f6 _ (by omega)]; exact r3
    · rw [f8 _ (by omega), f6 _ (by omega)]; exact r4
    · rw [f8 _ (by omega), f6 _ (by omega)]; exact r5
    · rw [f8 _ (by omega), f6 _ (by omega)]; exact f7 c c1 c2
  · rw [if_neg h0]
    refine ⟨m, dx, dy, S', h, w, ht, b1, V6, zE, zK, rfl, ?_, ?_, ?_, ?_, ?_, ?_, ?_, fun c c1 c2 => ?_⟩
    · rw [if_neg h0]; exact hC6
    · rw [f6 _ (by omega)]; exact r0
    · rw [f6 _ (by omega)]; exact r1
    · rw [f6 _ (by omega)]; exact r2
    · rw [f6 _ (by omega)]; exact r3
    · rw [f6 _ (by omega)]; exact r4
    · rw [f6 _ (by omega)]; exact r5
    · rw [f6 _ (by omega)]; exact f7 c c1 c2
