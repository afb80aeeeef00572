/-! a flick of the model -/
theorem cr_mroll {n k : Nat} {V0 : cr_Hp} {ra : Nat → Int32} {c3 c4 c5 c7 : Int32} : ∀ (fuel m S h : Nat) (dx dy w z : Int32) (ht : Nat → Bool) (b : Nat → Int32) (V : cr_Hp), sp_K n k m dx dy S h b → cr_RM V0 V n ra c3 c4 c5 c7 h w ht b → (60 - h) * 41 + S < fuel → ((S = 0 ∨ 60 ≤ h) → z ≤ 0) → (¬ (S = 0 ∨ 60 ≤ h) → z = nI S) →
    ∃ m' dx' dy' S' h' w' ht' b' V', sp_E n k (m, dx, dy, S, h, w, ht, b) (m', dx', dy', S', h', w', ht', b') ∧ cr_it (fun (q : Int32 × Int32 × Int32 × Int32 × Int32 × cr_Hp) => f_X8_rolls_l30 q.1 q.2.1 q.2.2.1 q.2.2.2.1 q.2.2.2.2.1 q.2.2.2.2.2) fuel (nI m, dx, dy, z, nI h, V) = some (nI m', V') ∧ cr_RM V0 V' n ra c3 c4 c5 c7 h' w' ht' b' ∧ sp_K n k m' dx' dy' S' h' b'
  | 0, m, S, h, dx, dy, w, z, ht, b, V, _, _, hf, _, _ => by omega
  | fuel + 1, m, S, h, dx, dy, w, z, ht, b, V, hK, hR, hf, z0, z1 => by
    by_cases he : S = 0 ∨ 60 ≤ h
    · refine ⟨m, dx, dy, S, h, w, ht, b, V, sp_E_end he, ?_, hR, hK⟩
      refine cr_it_r ?_
      show f_X8_rolls_l30 (nI m) dx dy z (nI h) V = _
      unfold f_X8_rolls_l30
      rw [if_pos (z0 he)]
    · have ez := z1 he
      subst ez
      have hne : ¬ sp_end (m, dx, dy, S, h, w, ht, b) := he
      have hS1 : 1 ≤ S := by omega
      have hS40 := hK.2.2.1
      obtain ⟨s1, s2⟩ := cr_mstep hK hR hS1
      by_cases hat : sp_at b (b (8 + 5 * m) + sp_w (b (8 + 5 * m)) dx) (b (8 + 5 * m + 1) + sp_w (b (8 + 5 * m + 1)) dy) n = 99
      · obtain ⟨W, e, hR2, hK2, hc⟩ := s1 hat
        obtain ⟨d1, d2⟩ := cr_cost_m ⟨S, by omega⟩ ⟨_, Nat.lt_succ_of_le hc⟩ hS1
        obtain ⟨m', dx', dy', S', h', w', ht', b', V', i1, i2, i3, i4⟩ := cr_mroll fuel m _ h _ _ _ _ ht _ W hK2 hR2 (by omega) (fun h => d1 (by
          rcases h with h | h
          · exact h
          · omega)) (fun h => d2 (by intro e; exact h (Or.inl e)))
        exact ⟨m', dx', dy', S', h', w', ht', b', V', sp_E_step hne (by rw [sp_step_m hat]; exact i1), (cr_it_l e).trans i2, i3, i4⟩
      · obtain ⟨W, e, hR2, hK2⟩ := s2 hat (by omega)
        obtain ⟨m', dx', dy', S', h', w', ht', b', V', i1, i2, i3, i4⟩ := cr_mroll fuel _ _ (h + 1) _ _ _ (if h + 1 = 60 then (0 : Int32) else nI (min 40 (S * sp_sz b m / sp_sz b (sp_at b (b (8 + 5 * m) + sp_w (b (8 + 5 * m)) dx) (b (8 + 5 * m + 1) + sp_w (b (8 + 5 * m + 1)) dy) n)))) _ _ W hK2 hR2 (by have := hK2.2.2.1; omega) (fun h => by
          by_cases h59 : ‹Nat› = ‹Nat›
          · rcases h with h | h
            · rw [h]
              split <;> decide
            · rw [if_pos (by have := hK2.2.2.2.1; omega)]; decide
          · exact absurd rfl h59) (fun h => by rw [if_neg (by omega)])
        exact ⟨m', dx', dy', S', h', w', ht', b', V', sp_E_step hne (by rw [sp_step_h hat]; exact i1), (cr_it_l e).trans i2, i3, i4⟩
theorem cr_mrolls {n k j d S : Nat} {V0 V : cr_Hp} {ra : Nat → Int32} {b : Nat → Int32} (hB : cr_B b n k) (hj : j < n) (hd : d < 8) (hS1 : 1 ≤ S) (hS : S ≤ 40) (hV : V 160 = b) (hra : ∀ j, j < n → V 166 j = ra j) (hSt : cr_St V) (hf : ∀ c, c ≠ 159 → c ≠ 160 → c ≠ 166 → V c = V0 c) (hf9 : ∀ t, t < 9 → V 159 t = V0 159 t) :
    ∃ m dx dy S' h w ht b1 W, sp_E n k (j, cr_sx d, cr_sy d, S, 0, 0, fun _ => false, b) (m, dx, dy, S', h, w, ht, b1) ∧ f_X8_rolls (nI j) (nI d) (nI S) V = some W ∧ cr_RM V0 W n ra (b 3) (b 4) (b 5) (b 7) h w ht b1 ∧ sp_K n k m dx dy S' h b1 ∧ W 159 10 = nI m ∧ W 159 11 = b1 (8 + 5 * m) ∧ W 159 12 = b1 (8 + 5 * m + 1) := by
  have hK : sp_K n k j (cr_sx d) (cr_sy d) S 0 b := ⟨hB, hj, hS, by omega, (cr_d_sx ⟨d, hd⟩).1, (cr_d_sx ⟨d, hd⟩).2⟩
  have hR : cr_RM V0 (cr_pt V 159 9 (0 : Int32)) n ra (b 3) (b 4) (b 5) (b 7) 0 0 (fun _ => false) b := by
    refine ⟨?_, ⟨0, by decide, by rw [cr_pv, if_pos ⟨rfl, rfl⟩]; rfl, fun j _ => Nat.zero_testBit j⟩, fun j hj => by rw [cr_pt_ne (by omega)]; exact hra j hj, fun c c1 c2 c3 => by rw [cr_pt_ne c1]; exact hf c c1 c2 c3, fun t ht => by rw [cr_pv, if_neg (by omega)]; exact hf9 t ht⟩
    rw [cr_pt_ne (by omega), hV]
    have e1 : b 4 + nI 0 = b 4 := Int32.add_zero _
    have e2 : b 7 + 0 = b 7 := Int32.add_zero _
    rw [e1, e2, sp_ov_id]
  obtain ⟨m, dx, dy, S', h, w, ht, b1, W, i1, i2, i3, i4⟩ := cr_mroll cr_FU j S 0 (cr_sx d) (cr_sy d) 0 (nI S) (fun _ => false) b _ hK hR (show (60 - 0) * 41 + S < 100000 by omega) (fun h => by omega) (fun _ => rfl)
  have hm12 : m < 12 := by have := i4.1.1; have := i4.2.1; omega
  obtain ⟨r1, ⟨v, v1, v2, v3⟩, r3, r4, r5⟩ := i3
  unfold f_X8_rolls
  rw [cr_gd_e (cr_ix_nI hd (by decide)), cr_lt_e, cr_gd_e (cr_ix_nI hd (by decide)), cr_lt_e, cr_lt_e, nI_clamp (by omega), hSt.1, hSt.2, cr_fx_sx hd, cr_fy_sy hd]
  rw [show cr_it (fun (q : Int32 × Int32 × Int32 × Int32 × Int32 × cr_Hp) => f_X8_rolls_l30 q.1 q.2.1 q.2.2.1 q.2.2.2.1 q.2.2.2.2.1 q.2.2.2.2.2) cr_FU (nI j, cr_sx d, cr_sy d, nI S, (0 : Int32), cr_pt V 159 9 (0 : Int32)) = some (nI m, W) from i2, cr_bd_some]
  have tail : (cr_u2 (fun (u4_30_277 : Int32) (V_e30_277 : cr_Hp) => cr_lt (cr_pt V_e30_277 159 10 u4_30_277) (fun (V280 : cr_Hp) => cr_bd (f_X8_part u4_30_277 (0 : Int32) V280) (fun (r288 : Int32) => cr_lt (cr_pt V280 159 11 r288) (fun (V291 : cr_Hp) => cr_bd (f_X8_part u4_30_277 (1 : Int32) V291) (fun (r299 : Int32) => cr_lt (cr_pt V291 159 12 r299) (fun (V302 : cr_Hp) => some V302))))))) (nI m, W) = some (cr_pt (cr_pt (cr_pt W 159 10 (nI m)) 159 11 (b1 (8 + 5 * m))) 159 12 (b1 (8 + 5 * m + 1))) := by
    unfold cr_u2
    dsimp only
    rw [cr_lt_e, cr_mp0 hm12, cr_bd_some, cr_lt_e, cr_mp1 hm12, cr_bd_some, cr_lt_e]
    simp only [cr_pt_ne (show 160 ≠ 159 by omega), r1, sp_ov_8 (show 8 ≤ 8 + 5 * m by omega), sp_ov_8 (show 8 ≤ 8 + 5 * m + 1 by omega)]
  refine ⟨m, dx, dy, S', h, w, ht, b1, _, i1, tail, ⟨?_, ⟨v, v1, ?_, v3⟩, fun j hj => ?_, fun c c1 c2 c3 => ?_, fun t ht => ?_⟩, i4, ?_, ?_, ?_⟩
  · rw [cr_pt_ne (by omega), cr_pt_ne (by omega), cr_pt_ne (by omega)]; exact r1
  · rw [cr_pv, if_neg (by omega), cr_pv, if_neg (by omega), cr_pv, if_neg (by omega)]; exact v2
  · rw [cr_pt_ne (by omega), cr_pt_ne (by omega), cr_pt_ne (by omega)]; exact r3 j hj
  · rw [cr_pt_ne c1, cr_pt_ne c1, cr_pt_ne c1]; exact r4 c c1 c2 c3
  · rw [cr_pv, if_neg (by omega), cr_pv, if_neg (by omega), cr_pv, if_neg (by omega)]; exact r5 t ht
  · rw [cr_pv, if_neg (by omega), cr_pv, if_neg (by omega), cr_pv, if_pos (by omega)]
  · rw [cr_pv, if_neg (by omega), cr_pv, if_pos (by omega)]
  · rw [cr_pv, if_pos (by omega)]
/-- the rings ahead of the roll -/
theorem cr_mahead {n k : Nat} {V : cr_Hp} {b : Nat → Int32} {x1 x2 x3 x4 : Int32} (hB : cr_B b n k) (hV : V 160 = b) : ∃ W, cr_it (fun (q : Int32 × cr_Hp) => f_X8_flicks_l3 x1 x2 x3 x4 q.1 q.2) cr_FU ((0 : Int32), V) = some W ∧ (∀ j, j < n → W 166 j = sp_ra b k j) ∧ ∀ c, c ≠ 166 → W c = V c := by
  have hn := hB.1
  refine cr_invH (F := fun x W => f_X8_flicks_l3 x1 x2 x3 x4 x W) (V := V) (fun i W => (∀ j, j < i → W 166 j = sp_ra b k j) ∧ ∀ c, c ≠ 166 → W c = V c) (fun W => (∀ j, j < n → W 166 j = sp_ra b k j) ∧ ∀ c, c ≠ 166 → W c = V c) n
    ⟨fun j hj => absurd hj (by omega), fun _ _ => rfl⟩ (fun i hi W ⟨w1, w2⟩ => ?_) (fun W hW => ⟨W, ?_, hW⟩) (by omega)
  · have e160 : W 160 = b := by rw [w2 _ (by omega)]; exact hV
    have main : ∀ v : Int32, v = sp_ra b k i → (∀ j, j < i + 1 → cr_pt W 166 i v 166 j = sp_ra b k j) ∧ ∀ c, c ≠ 166 → cr_pt W 166 i v c = V c := by
      intro v hv
      refine ⟨fun j hj => ?_, fun c hc => by rw [cr_pt_ne hc]; exact w2 c hc⟩
      rw [cr_pv]
      by_cases h : j = i
      · rw [if_pos ⟨rfl, h⟩, hv, h]
      · rw [if_neg (by omega)]; exact w1 j (by omega)
    unfold f_X8_flicks_l3
    rw [cr_G0, cr_T0, e160, hB.2.2.1, if_neg (nI_ge hi (by omega)), cr_1]
    by_cases l : cr_lie b i
    · rw [cr_mthere (by omega) e160 l, cr_bd_some, if_neg (by decide), cr_mringsM (by omega) hB e160, cr_bd_some, cr_gd_e (cr_ix_nI (by omega) (by decide)), nI_clamp (by omega), cr_lt_e]
      exact ⟨_, rfl, main _ (by unfold sp_ra; rw [if_pos l])⟩
    · rw [cr_mthere0 (by omega) e160 l, cr_bd_some, if_pos (by decide), cr_gd_e (cr_ix_nI (by omega) (by decide)), nI_clamp (by omega), cr_lt_e]
      exact ⟨_, rfl, main _ (by unfold sp_ra; rw [if_neg l])⟩
  · have e160 : W 160 = b := by rw [hW.2 _ (by omega)]; exact hV
    unfold f_X8_flicks_l3
    rw [cr_G0, cr_T0, e160, hB.2.2.1, if_pos (nI_le (Nat.le_refl n) (by omega))]
theorem sp_won_lie {k : Nat} {P : Int32} {ra : Nat → Int32} {ht : Nat → Bool} {b : Nat → Int32} {j : Nat} (h : sp_won k P ra ht b j) : cr_lie b j := h.1
/-- the marbles that are won: the model -/
theorem cr_mtake {n k p : Nat} {V : cr_Hp} {b ra : Nat → Int32} {ht : Nat → Bool} {c3 c4 c5 c7 : Int32} {v : Nat} (hB : cr_B b n k) (hp : p < 3) (hV : V 160 = sp_ov b c3 c4 c5 c7) (hv : v < 4096) (h9 : V 159 9 = nI v) (hb : ∀ j, j < n → v.testBit j = ht j) (hra : ∀ j, j < n → V 166 j = ra j) (hl : ∀ j, j < n → ¬ cr_lie b j → ra j = 0) (h13 : V 159 13 = 0) (h14 : V 159 14 = 0) :
    ∃ W, cr_it (fun (q : Int32 × Int32 × cr_Hp) => f_X8_flicks_l80 (nI p) q.1 q.2.1 q.2.2) cr_FU ((0 : Int32), (0 : Int32), V) = some ((sp_tk k (nI p) ra ht b n).1, W) ∧ W 160 = sp_ov (sp_tk k (nI p) ra ht b n).2.2.2 c3 c4 c5 c7 ∧ W 159 13 = (sp_tk k (nI p) ra ht b n).2.1 ∧ W 159 14 = (sp_tk k (nI p) ra ht b n).2.2.1 ∧ (∀ t, t ≠ 13 → t ≠ 14 → W 159 t = V 159 t) ∧ ∀ c, c ≠ 159 → c ≠ 160 → W c = V c := by
  have hn := hB.1
  have hk := hB.2.1
  obtain ⟨r, e, hr⟩ := cr_invG (F := fun g x W => f_X8_flicks_l80 (nI p) g x W) (g0 := 0) (V := V) (fun i g W => g = (sp_tk k (nI p) ra ht b i).1 ∧ W 160 = sp_ov (sp_tk k (nI p) ra ht b i).2.2.2 c3 c4 c5 c7 ∧ W 159 13 = (sp_tk k (nI p) ra ht b i).2.1 ∧ W 159 14 = (sp_tk k (nI p) ra ht b i).2.2.1 ∧ (∀ t, t ≠ 13 → t ≠ 14 → W 159 t = V 159 t) ∧ (∀ c, c ≠ 159 → c ≠ 160 → W c = V c) ∧ ∀ j, i ≤ j → (sp_tk k (nI p) ra ht b i).2.2.2 (8 + 5 * j + 4) = b (8 + 5 * j + 4)) (fun r => r.1 = (sp_tk k (nI p) ra ht b n).1 ∧ r.2 160 = sp_ov (sp_tk k (nI p) ra ht b n).2.2.2 c3 c4 c5 c7 ∧ r.2 159 13 = (sp_tk k (nI p) ra ht b n).2.1 ∧ r.2 159 14 = (sp_tk k (nI p) ra ht b n).2.2.1 ∧ (∀ t, t ≠ 13 → t ≠ 14 → r.2 159 t = V 159 t) ∧ ∀ c, c ≠ 159 → c ≠ 160 → r.2 c = V c) n
    ⟨rfl, hV, h13, h14, fun _ _ _ => rfl, fun _ _ _ => rfl, fun _ _ => rfl⟩ (fun i hi g W ⟨w1, w2, w3, w4, w5, w6, w7⟩ => by
      have hBi := sp_tk_B (ra := ra) (ht := ht) hB hp i (by omega)
      have hBo : cr_B (sp_ov (sp_tk k (nI p) ra ht b i).2.2.2 c3 c4 c5 c7) n k := cr_B_ov hBi
      have hi12 : i < 12 := by omega
      have q9 : W 159 9 = nI v := (w5 9 (by omega) (by omega)).trans h9
      have q166 : W 166 i = ra i := by rw [w6 166 (by omega) (by omega)]; exact hra i hi
      have e4 := w7 i (Nat.le_refl i)
      subst w1
      have no : ¬ sp_won k (nI p) ra ht (sp_tk k (nI p) ra ht b i).2.2.2 i → ∃ g' W', f_X8_flicks_b138 (nI p) (sp_tk k (nI p) ra ht b i).1 (nI i) W = some (.inl (g', nI (i + 1), W')) ∧ g' = (sp_tk k (nI p) ra ht b (i + 1)).1 ∧ W' 160 = sp_ov (sp_tk k (nI p) ra ht b (i + 1)).2.2.2 c3 c4 c5 c7 ∧ W' 159 13 = (sp_tk k (nI p) ra ht b (i + 1)).2.1 ∧ W' 159 14 = (sp_tk k (nI p) ra ht b (i + 1)).2.2.1 ∧ (∀ t, t ≠ 13 → t ≠ 14 → W' 159 t = V 159 t) ∧ (∀ c, c ≠ 159 → c ≠ 160 → W' c = V c) ∧ ∀ j, i + 1 ≤ j → (sp_tk k (nI p) ra ht b (i + 1)).2.2.2 (8 + 5 * j + 4) = b (8 + 5 * j + 4) := by
        intro hw
        have es : sp_tk k (nI p) ra ht b (i + 1) = sp_tk k (nI p) ra ht b i := by rw [sp_tk, if_neg hw]
        rw [es]
        refine ⟨_, W, ?_, rfl, w2, w3, w4, w5, w6, fun j hj => w7 j (by omega)⟩
        unfold f_X8_flicks_b138 f_X8_flicks_b139
        rw [if_pos rfl, cr_1]
      have yes : sp_won k (nI p) ra ht (sp_tk k (nI p) ra ht b i).2.2.2 i → ∃ g' W', f_X8_flicks_b139 (nI p) (sp_tk k (nI p) ra ht b i).1 (nI i) (1 : Int32) W = some (.inl (g', nI (i + 1), W')) ∧ g' = (sp_tk k (nI p) ra ht b (i + 1)).1 ∧ W' 160 = sp_ov (sp_tk k (nI p) ra ht b (i + 1)).2.2.2 c3 c4 c5 c7 ∧ W' 159 13 = (sp_tk k (nI p) ra ht b (i + 1)).2.1 ∧ W' 159 14 = (sp_tk k (nI p) ra ht b (i + 1)).2.2.1 ∧ (∀ t, t ≠ 13 → t ≠ 14 → W' 159 t = V 159 t) ∧ (∀ c, c ≠ 159 → c ≠ 160 → W' c = V c) ∧ ∀ j, i + 1 ≤ j → (sp_tk k (nI p) ra ht b (i + 1)).2.2.2 (8 + 5 * j + 4) = b (8 + 5 * j + 4) := by
        intro hw
        have es : sp_tk k (nI p) ra ht b (i + 1) = ((sp_tk k (nI p) ra ht b i).1 ||| ra i, (sp_tk k (nI p) ra ht b i).2.1 + 1, (sp_tk k (nI p) ra ht b i).2.2.1 + (sp_tk k (nI p) ra ht b i).2.2.2 (8 + 5 * i + 2), upd (sp_tk k (nI p) ra ht b i).2.2.2 (8 + 5 * i + 4) (nI p)) := by
          rw [sp_tk, if_pos hw]
        unfold f_X8_flicks_b139
        rw [es, if_neg (by decide), cr_ms4 hi12, cr_bd_some, cr_lt_e, cr_mp2 hi12, cr_bd_some, cr_lt_e, cr_gd_e (cr_ix_nI hi12 (by decide)), nI_clamp (by omega), cr_lt_e, cr_1]
        refine ⟨_, _, rfl, ?_, ?_, ?_, ?_, fun t t1 t2 => ?_, fun c c1 c2 => ?_, fun j hj => ?_⟩
        · rw [cr_pt_ne (by omega), cr_pt_ne (by omega), cr_pt_ne (by omega), q166]
        · rw [cr_pt_ne (by omega), cr_pt_ne (by omega), cr_pt_eq, w2, sp_ov_u (by omega)]
        · rw [cr_pv, if_neg (by omega), cr_pv, if_pos (by omega), cr_pt_ne (by omega), w3]
        · rw [cr_pv, if_pos (by omega), cr_pv, if_neg (by omega), cr_pt_ne (show 160 ≠ 159 by omega), cr_pt_ne (show 159 ≠ 160 by omega), cr_pv, if_neg (by omega), w2, w4, sp_ov_8 (by omega)]
        · rw [cr_pv, if_neg (by omega), cr_pv, if_neg (by omega), cr_pt_ne (by omega)]; exact w5 t t1 t2
        · rw [cr_pt_ne c1, cr_pt_ne c1, cr_pt_ne c2]; exact w6 c c1 c2
        · show upd _ _ _ _ = _
          rw [cr_uv, if_neg (by omega)]; exact w7 j (by omega)
      unfold f_X8_flicks_l80
      rw [cr_G0, cr_T0, w2, hBo.2.2.1, if_neg (nI_ge hi (by omega)), q9, cr_mp3 hi12, cr_bd_some, w2, sp_ov_8 (by omega), cr_gd_e (cr_ix_nI hi12 (by decide)), nI_clamp (by omega), q166, cr_mringsM hi12 hBo w2, cr_bd_some, sp_ov_rs, sp_ov_8 (by omega), sp_ov_8 (by omega)]
      by_cases a1 : ht i = true
      · rw [if_pos ((cr_bit_get hv hi12).mpr ((hb i hi).trans a1))]
        by_cases a2 : (sp_tk k (nI p) ra ht b i).2.2.2 (8 + 5 * i + 3) = nI p
        · rw [if_pos a2]; exact no (fun h => h.2.2.1 a2)
        · rw [if_neg a2]
          by_cases a3 : ra i = 0
          · rw [if_pos a3]; exact no (fun h => h.2.2.2.1 a3)
          · rw [if_neg a3]
            by_cases a4 : sp_rs (sp_tk k (nI p) ra ht b i).2.2.2 ((sp_tk k (nI p) ra ht b i).2.2.2 (8 + 5 * i)) ((sp_tk k (nI p) ra ht b i).2.2.2 (8 + 5 * i + 1)) k = 0
            · rw [if_pos a4]
              refine yes ⟨?_, a1, a2, a3, a4⟩
              rw [e4]
              by_cases l : cr_lie b i
              · exact l
              · exact absurd (hl i hi l) a3
            · rw [if_neg a4]; exact no (fun h => a4 h.2.2.2.2)
      · rw [if_neg (fun h => a1 ((hb i hi).symm.trans ((cr_bit_get hv hi12).mp h)))]
        exact no (fun h => a1 h.2.1))
    (fun g W ⟨w1, w2, w3, w4, w5, w6, w7⟩ => by
      have hBo : cr_B (sp_ov (sp_tk k (nI p) ra ht b n).2.2.2 c3 c4 c5 c7) n k := cr_B_ov (sp_tk_B (ra := ra) (ht := ht) hB hp n (by omega))
      refine ⟨(g, W), ?_, w1, w2, w3, w4, w5, w6⟩
      unfold f_X8_flicks_l80
      rw [cr_G0, cr_T0, w2, hBo.2.2.1, if_pos (nI_le (Nat.le_refl n) (by omega))]) (by omega)
  obtain ⟨r1, r2⟩ := r
  obtain ⟨g1, g2, g3, g4, g5, g6⟩ := hr
  have g1 : r1 = (sp_tk k (nI p) ra ht b n).1 := g1
  subst g1
  exact ⟨r2, e, g2, g3, g4, g5, g6⟩
/-- the rings grow: the model -/
theorem cr_mgrow {n k : Nat} {V : cr_Hp} {b : Nat → Int32} {g c3 c4 c5 c7 : Int32} (hB : cr_B b n k) (hV : V 160 = sp_ov b c3 c4 c5 c7) : ∃ W, cr_it (fun (q : Int32 × cr_Hp) => f_X8_flicks_l214 g q.1 q.2) cr_FU ((0 : Int32), V) = some W ∧ W 160 = sp_ov (sp_gw g b k) c3 c4 c5 c7 ∧ ∀ c, c ≠ 160 → W c = V c := by
  have hk := hB.2.1
  refine cr_invH (F := fun x W => f_X8_flicks_l214 g x W) (V := V) (fun i W => W 160 = sp_ov (sp_gw g b i) c3 c4 c5 c7 ∧ ∀ c, c ≠ 160 → W c = V c) (fun W => W 160 = sp_ov (sp_gw g b k) c3 c4 c5 c7 ∧ ∀ c, c ≠ 160 → W c = V c) k
    ⟨hV, fun _ _ => rfl⟩ (fun i hi W ⟨w1, w2⟩ => ?_) (fun W hW => ⟨W, ?_, hW⟩) (by omega)
  · have hBo : cr_B (sp_ov (sp_gw g b i) c3 c4 c5 c7) n k := cr_B_ov (sp_gw_B hB i (by omega))
    have e3 : ((68 : Int32) + ((3 : Int32) * nI i)) + (2 : Int32) = nI (68 + 3 * i + 2) := cr_ix3 (r := i) (c := 2)
    unfold f_X8_flicks_l214
    rw [cr_G1, cr_T1, w1, hBo.2.2.2.1, if_neg (nI_ge hi (by omega)), cr_mr2 (by omega), cr_bd_some, w1, sp_ov_8 (by omega), cr_1, e3]
    by_cases hb : sp_bit g i
    · by_cases h15 : (15 : Int32) ≤ sp_gw g b i (68 + 3 * i + 2)
      · rw [if_pos hb, if_pos h15, sp_gw, if_neg (fun h => h.2 h15)]
        exact ⟨W, rfl, w1, w2⟩
      · rw [if_pos hb, if_neg h15, cr_gd_e (cr_ix_nI (by omega) (by decide)), cr_gd_e (cr_ix_nI (by omega) (by decide)), nI_clamp (by omega), cr_lt_e, cr_G6, cr_G6, cr_lt_e, cr_T6, sp_gw, if_pos ⟨hb, h15⟩]
        refine ⟨_, rfl, ?_, fun c hc => by rw [cr_pt_ne hc, cr_pt_ne hc]; exact w2 c hc⟩
        rw [cr_pt_eq, cr_pt_eq, w1, sp_ov_8 (by omega), sp_ov_u (by omega), sp_ov_u (by omega), sp_ov_o (by omega), cr_uv, if_neg (by omega)]
    · rw [if_neg hb, sp_gw, if_neg (fun h => hb h.1)]
      exact ⟨W, rfl, w1, w2⟩
  · have hBo : cr_B (sp_ov (sp_gw g b k) c3 c4 c5 c7) n k := cr_B_ov (sp_gw_B hB k (by omega))
    unfold f_X8_flicks_l214
    rw [cr_G1, cr_T1, hW.1, hBo.2.2.2.1, if_pos (nI_le (Nat.le_refl k) (by omega))]
