/-! a flick of the law -/
theorem cr_Ldir {a4 a5 a6 a7 a2 a8 d : Nat} {x0 x1 x3 : Int32} {W : cr_Hp} (hd : d < 8) : (if (nI d - nI d / (4 : Int32) * (4 : Int32)) = 0 then (f_L_flick_b94 a4 a5 a6 a7 a2 a8 x0 x1 (nI d) x3 (0 : Int32) W) else (if (4 : Int32) ≤ nI d then (f_L_flick_b94 a4 a5 a6 a7 a2 a8 x0 x1 (nI d) x3 (-1 : Int32) W) else (f_L_flick_b94 a4 a5 a6 a7 a2 a8 x0 x1 (nI d) x3 (1 : Int32) W))) = f_L_flick_b123 a4 a5 a6 a7 a2 a8 x0 x1 x3 (cr_sx d) (cr_sy d) W := by
  have hd2 : d = 0 ∨ d = 1 ∨ d = 2 ∨ d = 3 ∨ d = 4 ∨ d = 5 ∨ d = 6 ∨ d = 7 := by omega
  unfold f_L_flick_b94 f_L_flick_b122
  rcases hd2 with rfl | rfl | rfl | rfl | rfl | rfl | rfl | rfl
  · rw [if_pos (show nI 0 - nI 0 / (4 : Int32) * (4 : Int32) = 0 by decide), if_neg (show ¬ nI 0 - nI 0 / (4 : Int32) * (4 : Int32) = (2 : Int32) by decide), if_pos (show nI 0 ≤ (2 : Int32) by decide)]; rfl
  · rw [if_neg (show ¬ nI 1 - nI 1 / (4 : Int32) * (4 : Int32) = 0 by decide), if_neg (show ¬ (4 : Int32) ≤ nI 1 by decide), if_neg (show ¬ nI 1 - nI 1 / (4 : Int32) * (4 : Int32) = (2 : Int32) by decide), if_pos (show nI 1 ≤ (2 : Int32) by decide)]; rfl
  · rw [if_neg (show ¬ nI 2 - nI 2 / (4 : Int32) * (4 : Int32) = 0 by decide), if_neg (show ¬ (4 : Int32) ≤ nI 2 by decide), if_pos (show nI 2 - nI 2 / (4 : Int32) * (4 : Int32) = (2 : Int32) by decide)]; rfl
  · rw [if_neg (show ¬ nI 3 - nI 3 / (4 : Int32) * (4 : Int32) = 0 by decide), if_neg (show ¬ (4 : Int32) ≤ nI 3 by decide), if_neg (show ¬ nI 3 - nI 3 / (4 : Int32) * (4 : Int32) = (2 : Int32) by decide), if_neg (show ¬ nI 3 ≤ (2 : Int32) by decide), if_neg (show ¬ (6 : Int32) ≤ nI 3 by decide)]; rfl
  · rw [if_pos (show nI 4 - nI 4 / (4 : Int32) * (4 : Int32) = 0 by decide), if_neg (show ¬ nI 4 - nI 4 / (4 : Int32) * (4 : Int32) = (2 : Int32) by decide), if_neg (show ¬ nI 4 ≤ (2 : Int32) by decide), if_neg (show ¬ (6 : Int32) ≤ nI 4 by decide)]; rfl
  · rw [if_neg (show ¬ nI 5 - nI 5 / (4 : Int32) * (4 : Int32) = 0 by decide), if_pos (show (4 : Int32) ≤ nI 5 by decide), if_neg (show ¬ nI 5 - nI 5 / (4 : Int32) * (4 : Int32) = (2 : Int32) by decide), if_neg (show ¬ nI 5 ≤ (2 : Int32) by decide), if_neg (show ¬ (6 : Int32) ≤ nI 5 by decide)]; rfl
  · rw [if_neg (show ¬ nI 6 - nI 6 / (4 : Int32) * (4 : Int32) = 0 by decide), if_pos (show (4 : Int32) ≤ nI 6 by decide), if_pos (show nI 6 - nI 6 / (4 : Int32) * (4 : Int32) = (2 : Int32) by decide)]; rfl
  · rw [if_neg (show ¬ nI 7 - nI 7 / (4 : Int32) * (4 : Int32) = 0 by decide), if_pos (show (4 : Int32) ≤ nI 7 by decide), if_neg (show ¬ nI 7 - nI 7 / (4 : Int32) * (4 : Int32) = (2 : Int32) by decide), if_neg (show ¬ nI 7 ≤ (2 : Int32) by decide), if_pos (show (6 : Int32) ≤ nI 7 by decide)]; rfl
theorem cr_zr_ne {V : cr_Hp} {a b : Nat} (h : b ≠ a) : cr_zr V a b = V b := if_neg h
theorem cr_zr_eq {V : cr_Hp} {a : Nat} : cr_zr V a a = fun _ => 0 := if_pos rfl
theorem cr_Lahead {B n k : Nat} {V : cr_Hp} {b : Nat → Int32} {x0 x1 x2 x3 : Int32} (hB : cr_B b n k) (hR : cr_R B (B + 1) (B + 2) V b n k) : ∃ W, cr_it (fun (q : Int32 × cr_Hp) => f_L_flick_l15 B (B + 1) (B + 2) (B + 3) (B + 4) (B + 5) x0 x1 x2 x3 q.1 q.2) cr_FU ((0 : Int32), V) = some W ∧ (∀ j, j < n → W (B + 4) j = sp_ra b k j) ∧ ∀ c, c ≠ B + 4 → W c = V c := by
  have hn := hB.1
  refine cr_invH (F := fun x W => f_L_flick_l15 B (B + 1) (B + 2) (B + 3) (B + 4) (B + 5) x0 x1 x2 x3 x W) (V := V) (fun i W => (∀ j, j < i → W (B + 4) j = sp_ra b k j) ∧ ∀ c, c ≠ B + 4 → W c = V c) (fun W => (∀ j, j < n → W (B + 4) j = sp_ra b k j) ∧ ∀ c, c ≠ B + 4 → W c = V c) n
    ⟨fun j hj => absurd hj (by omega), fun _ _ => rfl⟩ (fun i hi W ⟨w1, w2⟩ => ?_) (fun W hW => ⟨W, ?_, hW⟩) (by omega)
  · have hRW : cr_R B (B + 1) (B + 2) W b n k := hR.fr (w2 _ (by omega)) (w2 _ (by omega)) (w2 _ (by omega))
    have h12 : i < 12 := by omega
    have main : ∀ v : Int32, v = sp_ra b k i → (∀ j, j < i + 1 → cr_pt W (B + 4) i v (B + 4) j = sp_ra b k j) ∧ ∀ c, c ≠ B + 4 → cr_pt W (B + 4) i v c = V c := by
      intro v hv
      refine ⟨fun j hj => ?_, fun c hc => by rw [cr_pt_ne hc]; exact w2 c hc⟩
      rw [cr_pv]
      by_cases h : j = i
      · rw [if_pos ⟨rfl, h⟩, hv, h]
      · rw [if_neg (fun hh => h hh.2)]; exact w1 j (by omega)
    unfold f_L_flick_l15
    rw [cr_H0, cr_T0, hRW.q 0 (by decide), hB.2.2.1, if_neg (nI_ge hi (by omega)), cr_g54 h12, cr_t54 h12, hRW.m4 hi, cr_1]
    by_cases l : cr_lie b i
    · rw [if_neg (cr_lie_n l), cr_g50 h12, cr_g51 h12, cr_t50 h12, cr_t51 h12, hRW.m0 hi, hRW.m1 hi, cr_Lrings hB hRW, cr_bd_some, cr_gz h12 (by decide), nI_clamp (by omega), cr_lt_e]
      exact ⟨_, rfl, main _ (by unfold sp_ra; rw [if_pos l])⟩
    · rw [if_pos (cr_won_p hB hi l), cr_gz h12 (by decide), nI_clamp (by omega), cr_lt_e]
      exact ⟨_, rfl, main _ (by unfold sp_ra; rw [if_neg l])⟩
  · have hRW : cr_R B (B + 1) (B + 2) W b n k := hR.fr (hW.2 _ (by omega)) (hW.2 _ (by omega)) (hW.2 _ (by omega))
    unfold f_L_flick_l15
    rw [cr_H0, cr_T0, hRW.q 0 (by decide), hB.2.2.1, if_pos (nI_le (Nat.le_refl n) (by omega))]
theorem cr_Ltake {B n k p : Nat} {V : cr_Hp} {b ra : Nat → Int32} {ht : Nat → Bool} {c3 c4 c5 c7 u14 : Int32} (hB : cr_B b n k) (hp : p < 3) (hR : cr_R B (B + 1) (B + 2) V (sp_ov b c3 c4 c5 c7) n k) (hra : ∀ j, j < n → V (B + 4) j = ra j) (hh : ∀ j, j < n → ∃ cnt, cnt ≤ 60 ∧ V (B + 5) j = nI cnt ∧ (ht j = true ↔ 0 < cnt)) (hl : ∀ j, j < n → ¬ cr_lie b j → ra j = 0) (h0 : V (B + 3) 0 = 0) (h1 : V (B + 3) 1 = 0) :
    ∃ W, cr_it (fun (q : Int32 × Int32 × cr_Hp) => f_L_flick_l463 B (B + 1) (B + 2) (B + 3) (B + 4) (B + 5) (nI p) u14 q.1 q.2.1 q.2.2) cr_FU ((0 : Int32), (0 : Int32), V) = some ((sp_tk k (nI p) ra ht b n).1, W) ∧ cr_R B (B + 1) (B + 2) W (sp_ov (sp_tk k (nI p) ra ht b n).2.2.2 c3 c4 c5 c7) n k ∧ W (B + 3) 0 = (sp_tk k (nI p) ra ht b n).2.1 ∧ W (B + 3) 1 = (sp_tk k (nI p) ra ht b n).2.2.1 ∧ (∀ t, 2 ≤ t → W (B + 3) t = V (B + 3) t) ∧ ∀ c, c ≠ B + 1 → c ≠ B + 3 → W c = V c := by
  have hn := hB.1
  have hk := hB.2.1
  obtain ⟨r, e, hr⟩ := cr_invG (F := fun g x W => f_L_flick_l463 B (B + 1) (B + 2) (B + 3) (B + 4) (B + 5) (nI p) u14 g x W) (g0 := 0) (V := V) (fun i g W => g = (sp_tk k (nI p) ra ht b i).1 ∧ cr_R B (B + 1) (B + 2) W (sp_ov (sp_tk k (nI p) ra ht b i).2.2.2 c3 c4 c5 c7) n k ∧ W (B + 3) 0 = (sp_tk k (nI p) ra ht b i).2.1 ∧ W (B + 3) 1 = (sp_tk k (nI p) ra ht b i).2.2.1 ∧ (∀ t, 2 ≤ t → W (B + 3) t = V (B + 3) t) ∧ (∀ c, c ≠ B + 1 → c ≠ B + 3 → W c = V c) ∧ ∀ j, i ≤ j → (sp_tk k (nI p) ra ht b i).2.2.2 (8 + 5 * j + 4) = b (8 + 5 * j + 4)) (fun r => r.1 = (sp_tk k (nI p) ra ht b n).1 ∧ cr_R B (B + 1) (B + 2) r.2 (sp_ov (sp_tk k (nI p) ra ht b n).2.2.2 c3 c4 c5 c7) n k ∧ r.2 (B + 3) 0 = (sp_tk k (nI p) ra ht b n).2.1 ∧ r.2 (B + 3) 1 = (sp_tk k (nI p) ra ht b n).2.2.1 ∧ (∀ t, 2 ≤ t → r.2 (B + 3) t = V (B + 3) t) ∧ ∀ c, c ≠ B + 1 → c ≠ B + 3 → r.2 c = V c) n
    ⟨rfl, hR, h0, h1, fun _ _ => rfl, fun _ _ _ => rfl, fun _ _ => rfl⟩ (fun i hi g W ⟨w1, w2, w3, w4, w5, w6, w7⟩ => by
      have hBi := sp_tk_B (ra := ra) (ht := ht) hB hp i (by omega)
      obtain ⟨q, eq⟩ : ∃ q, q = sp_tk k (nI p) ra ht b i := ⟨_, rfl⟩
      rw [← eq] at w1 w2 w3 w4 w7 hBi
      have hBo : cr_B (sp_ov q.2.2.2 c3 c4 c5 c7) n k := cr_B_ov hBi
      have h12 : i < 12 := by omega
      obtain ⟨cnt, k1, k2, k3⟩ := hh i hi
      have v8 : W (B + 5) i = nI cnt := by rw [w6 _ (by omega) (by omega)]; exact k2
      have v2 : W (B + 4) i = ra i := by rw [w6 _ (by omega) (by omega)]; exact hra i hi
      have e4 := w7 i (Nat.le_refl i)
      have m0 : W (B + 1) (5 * i) = q.2.2.2 (8 + 5 * i) := (w2.m0 hi).trans (sp_ov_8 (by omega))
      have m1 : W (B + 1) (5 * i + 1) = q.2.2.2 (8 + 5 * i + 1) := (w2.m1 hi).trans (sp_ov_8 (by omega))
      have m2 : W (B + 1) (5 * i + 2) = q.2.2.2 (8 + 5 * i + 2) := (w2.m2 hi).trans (sp_ov_8 (by omega))
      have m3 : W (B + 1) (5 * i + 3) = q.2.2.2 (8 + 5 * i + 3) := (w2.m3 hi).trans (sp_ov_8 (by omega))
      subst w1
      have no : ¬ sp_won k (nI p) ra ht q.2.2.2 i → ∃ g' W', (some (.inl (q.1, nI (i + 1), W)) : Option ((Int32 × Int32 × cr_Hp) ⊕ (Int32 × cr_Hp))) = some (.inl (g', nI (i + 1), W')) ∧ g' = (sp_tk k (nI p) ra ht b (i + 1)).1 ∧ cr_R B (B + 1) (B + 2) W' (sp_ov (sp_tk k (nI p) ra ht b (i + 1)).2.2.2 c3 c4 c5 c7) n k ∧ W' (B + 3) 0 = (sp_tk k (nI p) ra ht b (i + 1)).2.1 ∧ W' (B + 3) 1 = (sp_tk k (nI p) ra ht b (i + 1)).2.2.1 ∧ (∀ t, 2 ≤ t → W' (B + 3) t = V (B + 3) t) ∧ (∀ c, c ≠ B + 1 → c ≠ B + 3 → W' c = V c) ∧ ∀ j, i + 1 ≤ j → (sp_tk k (nI p) ra ht b (i + 1)).2.2.2 (8 + 5 * j + 4) = b (8 + 5 * j + 4) := by
        intro hw
        have es : sp_tk k (nI p) ra ht b (i + 1) = q := by rw [eq, sp_tk, if_neg (by rw [← eq]; exact hw)]
        rw [es]
        exact ⟨_, W, rfl, rfl, w2, w3, w4, w5, w6, fun j hj => w7 j (by omega)⟩
      show ∃ g' W', f_L_flick_l463 B (B + 1) (B + 2) (B + 3) (B + 4) (B + 5) (nI p) u14 q.1 (nI i) W = some (.inl (g', nI (i + 1), W')) ∧ _
      unfold f_L_flick_l463
      rw [cr_H0, show W B (0 : Int32).toNatClampNeg = nI n by rw [cr_T0, w2.q 0 (by decide)]; exact hBo.2.2.1, if_neg (nI_ge hi (by omega)), cr_gz h12 (by decide), cr_1, show W (B + 5) (nI i).toNatClampNeg = nI cnt by rw [nI_clamp (by omega), v8]]
      by_cases a1 : ht i = true
      · rw [if_neg (nI_ne0 (k3.mp a1) (by omega)), cr_g53 h12, show W (B + 1) (((5 : Int32) * nI i) + (3 : Int32)).toNatClampNeg = q.2.2.2 (8 + 5 * i + 3) by rw [cr_t53 h12, m3]]
        by_cases a2 : q.2.2.2 (8 + 5 * i + 3) = nI p
        · rw [if_pos a2]; exact no (fun h => h.2.2.1 a2)
        · rw [if_neg a2, cr_gz h12 (by decide), show W (B + 4) (nI i).toNatClampNeg = ra i by rw [nI_clamp (by omega), v2]]
          by_cases a3 : ra i = 0
          · rw [if_pos a3]; exact no (fun h => h.2.2.2.1 a3)
          · rw [if_neg a3, cr_g50 h12, cr_g51 h12, show f_L_rings B (B + 2) (W (B + 1) ((5 : Int32) * nI i).toNatClampNeg) (W (B + 1) (((5 : Int32) * nI i) + (1 : Int32)).toNatClampNeg) W = some (sp_rs q.2.2.2 (q.2.2.2 (8 + 5 * i)) (q.2.2.2 (8 + 5 * i + 1)) k) by rw [cr_t50 h12, cr_t51 h12, m0, m1, cr_Lrings hBo w2, sp_ov_rs], cr_bd_some]
            by_cases a4 : sp_rs q.2.2.2 (q.2.2.2 (8 + 5 * i)) (q.2.2.2 (8 + 5 * i + 1)) k = 0
            · have l : cr_lie b i := by
                by_cases l : cr_lie b i
                · exact l
                · exact absurd (hl i hi l) a3
              have hw : sp_won k (nI p) ra ht q.2.2.2 i := ⟨e4.trans l, a1, a2, a3, a4⟩
              have es : sp_tk k (nI p) ra ht b (i + 1) = (q.1 ||| ra i, q.2.1 + 1, q.2.2.1 + q.2.2.2 (8 + 5 * i + 2), upd q.2.2.2 (8 + 5 * i + 4) (nI p)) := by
                rw [eq, sp_tk, if_pos (by rw [← eq]; exact hw)]
              rw [if_pos a4, cr_K0, cr_K0, cr_T0, w3, cr_lt_e, cr_K1, cr_g52 h12, cr_K1, cr_T1, cr_lt_c (show cr_pt (cr_pt W (B + 3) 0 (q.2.1 + (1 : Int32))) (B + 3) 1 (cr_pt W (B + 3) 0 (q.2.1 + (1 : Int32)) (B + 3) 1 + cr_pt W (B + 3) 0 (q.2.1 + (1 : Int32)) (B + 1) (((5 : Int32) * nI i) + (2 : Int32)).toNatClampNeg) = cr_pt (cr_pt W (B + 3) 0 (q.2.1 + (1 : Int32))) (B + 3) 1 (q.2.2.1 + q.2.2.2 (8 + 5 * i + 2)) by rw [cr_t52 h12, cr_pt_ne (show B + 1 ≠ B + 3 by omega), m2, cr_pv, if_neg (by omega), w4]), cr_gz h12 (by decide), cr_lt_c (show q.1 ||| cr_pt (cr_pt W (B + 3) 0 (q.2.1 + (1 : Int32))) (B + 3) 1 (q.2.2.1 + q.2.2.2 (8 + 5 * i + 2)) (B + 4) (nI i).toNatClampNeg = q.1 ||| ra i by rw [cr_pt_ne (by omega), cr_pt_ne (by omega), nI_clamp (by omega), v2]), cr_g54 h12, cr_lt_c (show cr_pt (cr_pt (cr_pt W (B + 3) 0 (q.2.1 + (1 : Int32))) (B + 3) 1 (q.2.2.1 + q.2.2.2 (8 + 5 * i + 2))) (B + 1) (((5 : Int32) * nI i) + (4 : Int32)).toNatClampNeg (nI p) = cr_pt (cr_pt (cr_pt W (B + 3) 0 (q.2.1 + (1 : Int32))) (B + 3) 1 (q.2.2.1 + q.2.2.2 (8 + 5 * i + 2))) (B + 1) (5 * i + 4) (nI p) by rw [cr_t54 h12]), es]
              refine ⟨_, _, rfl, rfl, ?_, ?_, ?_, fun t ht2 => ?_, fun c h1 h2 => ?_, fun j hj => ?_⟩
              · have R1 : cr_R B (B + 1) (B + 2) (cr_pt (cr_pt W (B + 3) 0 (q.2.1 + (1 : Int32))) (B + 3) 1 (q.2.2.1 + q.2.2.2 (8 + 5 * i + 2))) (sp_ov q.2.2.2 c3 c4 c5 c7) n k := w2.fr (by rw [cr_pt_ne (by omega), cr_pt_ne (by omega)]) (by rw [cr_pt_ne (by omega), cr_pt_ne (by omega)]) (by rw [cr_pt_ne (by omega), cr_pt_ne (by omega)])
                have R2 := R1.um (j := i) (c := 4) (v := nI p) (by omega) (by omega) h12 (by decide)
                rw [sp_ov_u (by omega)] at R2
                exact R2
              · rw [cr_pt_ne (by omega), cr_pv, if_neg (by omega), cr_pv, if_pos (by omega)]
              · rw [cr_pt_ne (by omega), cr_pv, if_pos (by omega)]
              · rw [cr_pt_ne (by omega), cr_pv, if_neg (by omega), cr_pv, if_neg (by omega)]; exact w5 t ht2
              · rw [cr_pt_ne h1, cr_pt_ne h2, cr_pt_ne h2]; exact w6 c h1 h2
              · show upd _ _ _ _ = _
                rw [cr_uv, if_neg (by omega)]; exact w7 j (by omega)
            · rw [if_neg a4]; exact no (fun h => a4 h.2.2.2.2)
      · have z0 : cnt = 0 := by
          rcases Nat.eq_zero_or_pos cnt with h | h
          · exact h
          · exact absurd (k3.mpr h) a1
        rw [if_pos (show nI cnt = 0 by rw [z0]; rfl)]
        exact no (fun h => a1 h.2.1))
    (fun g W ⟨w1, w2, w3, w4, w5, w6, w7⟩ => by
      have hBo : cr_B (sp_ov (sp_tk k (nI p) ra ht b n).2.2.2 c3 c4 c5 c7) n k := cr_B_ov (sp_tk_B (ra := ra) (ht := ht) hB hp n (by omega))
      refine ⟨(g, W), ?_, w1, w2, w3, w4, w5, w6⟩
      show f_L_flick_l463 B (B + 1) (B + 2) (B + 3) (B + 4) (B + 5) (nI p) u14 g (nI n) W = _
      unfold f_L_flick_l463
      rw [cr_H0, show W B (0 : Int32).toNatClampNeg = nI n by rw [cr_T0, w2.q 0 (by decide)]; exact hBo.2.2.1, if_pos (nI_le (Nat.le_refl n) (by omega))]) (by omega)
  obtain ⟨r1, r2⟩ := r
  obtain ⟨g1, g2, g3, g4, g5, g6⟩ := hr
  have g1 : r1 = (sp_tk k (nI p) ra ht b n).1 := g1
  subst g1
  exact ⟨r2, e, g2, g3, g4, g5, g6⟩
theorem cr_bit01 (x : Int32) : x &&& (1 : Int32) = 0 ∨ x &&& (1 : Int32) = 1 := by
  obtain ⟨j, hj, e⟩ := pk_andE x (m := (1 : Int32)) 1 (by decide)
  have hj2 : j = 0 ∨ j = 1 := by omega
  rcases hj2 with rfl | rfl
  · exact Or.inl e
  · exact Or.inr e
theorem cr_Lgrow {B n k : Nat} {V : cr_Hp} {b : Nat → Int32} {g c3 c4 c5 c7 : Int32} (hB : cr_B b n k) (hR : cr_R B (B + 1) (B + 2) V (sp_ov b c3 c4 c5 c7) n k) : ∃ W, cr_it (fun (q : Int32 × cr_Hp) => f_L_flick_l611 B (B + 2) g q.1 q.2) cr_FU ((0 : Int32), V) = some W ∧ cr_R B (B + 1) (B + 2) W (sp_ov (sp_gw g b k) c3 c4 c5 c7) n k ∧ ∀ c, c ≠ B → c ≠ B + 2 → W c = V c := by
  have hn := hB.1
  have hk := hB.2.1
  refine cr_invH (F := fun x W => f_L_flick_l611 B (B + 2) g x W) (V := V) (fun i W => cr_R B (B + 1) (B + 2) W (sp_ov (sp_gw g b i) c3 c4 c5 c7) n k ∧ ∀ c, c ≠ B → c ≠ B + 2 → W c = V c) (fun W => cr_R B (B + 1) (B + 2) W (sp_ov (sp_gw g b k) c3 c4 c5 c7) n k ∧ ∀ c, c ≠ B → c ≠ B + 2 → W c = V c) k
    ⟨hR, fun _ _ _ => rfl⟩ (fun i hi W ⟨w1, w2⟩ => ?_) (fun W hW => ⟨W, ?_, hW⟩) (by omega)
  · have hBg := sp_gw_B (g := g) hB i (by omega)
    have hBo : cr_B (sp_ov (sp_gw g b i) c3 c4 c5 c7) n k := cr_B_ov hBg
    have h4 : i < 4 := by omega
    have r2 : W (B + 2) (3 * i + 2) = sp_gw g b i (68 + 3 * i + 2) := (w1.r2 hi).trans (sp_ov_8 (by omega))
    have q6 : W B 6 = sp_gw g b i 6 := (w1.q 6 (by decide)).trans (sp_ov_o (by omega))
    have r2' : W (B + 2) (((3 : Int32) * nI i) + (2 : Int32)).toNatClampNeg = sp_gw g b i (68 + 3 * i + 2) := by rw [cr_t32 h4, r2]
    unfold f_L_flick_l611
    rw [cr_H1, cr_T1, w1.q 1 (by decide), hBo.2.2.2.1, if_neg (nI_ge hi (by omega)), cr_1]
    by_cases hb : sp_bit g i
    · have hb0 : ¬ ((g >>> (nI i &&& 31)) &&& (1 : Int32)) = 0 := by rw [show ((g >>> (nI i &&& 31)) &&& (1 : Int32)) = (1 : Int32) from hb]; decide
      rw [if_neg hb0, cr_g32 h4, r2']
      obtain ⟨X, Y, d, -, -, d1, d15, -, -, ed⟩ := hBg.2.2.2.2.2.2.1 i hi
      by_cases h15 : sp_gw g b i (68 + 3 * i + 2) = (15 : Int32)
      · have hle : (15 : Int32) ≤ sp_gw g b i (68 + 3 * i + 2) := by rw [h15]; decide
        rw [if_pos h15, sp_gw, if_neg (fun h => h.2 hle)]
        exact ⟨W, rfl, w1, w2⟩
      · have hle : ¬ (15 : Int32) ≤ sp_gw g b i (68 + 3 * i + 2) := by
          rw [ed] at h15 ⊢
          rw [cr_L15]
          exact nI_ge (by
            rcases Nat.lt_or_ge d 15 with h | h
            · exact h
            · exact absurd (by rw [show d = 15 by omega]; rfl) h15) (by decide)
        rw [if_neg h15, cr_g32 h4, cr_g32 h4, cr_lt_c (show cr_pt W (B + 2) (((3 : Int32) * nI i) + (2 : Int32)).toNatClampNeg (sp_gw g b i (68 + 3 * i + 2) + (1 : Int32)) = cr_pt W (B + 2) (3 * i + 2) (sp_gw g b i (68 + 3 * i + 2) + (1 : Int32)) by rw [cr_t32 h4]), cr_H6, cr_H6, cr_T6, cr_pt_ne (show B ≠ B + 2 by omega), q6, cr_lt_e, sp_gw, if_pos ⟨hb, hle⟩]
        refine ⟨_, rfl, ?_, fun c h1 h2 => by rw [cr_pt_ne h1, cr_pt_ne h2]; exact w2 c h1 h2⟩
        have R1 := (w1.ur (r := i) (c := 2) (v := sp_gw g b i (68 + 3 * i + 2) + (1 : Int32)) hn (by omega) (by omega) (by decide)).uq (t := 6) (v := sp_gw g b i 6 + (1 : Int32)) (by omega) (by omega) (by decide)
        rw [sp_ov_u (by omega), sp_ov_u (by omega)] at R1
        exact R1
    · have hb0 : ((g >>> (nI i &&& 31)) &&& (1 : Int32)) = 0 := (cr_bit01 _).resolve_right hb
      rw [if_pos hb0, sp_gw, if_neg (fun h => hb h.1)]
      exact ⟨W, rfl, w1, w2⟩
  · have hBo : cr_B (sp_ov (sp_gw g b k) c3 c4 c5 c7) n k := cr_B_ov (sp_gw_B hB k (by omega))
    unfold f_L_flick_l611
    rw [cr_H1, cr_T1, hW.1.q 1 (by decide), hBo.2.2.2.1, if_pos (nI_le (Nat.le_refl k) (by omega))]
theorem cr_Lflick {B n k j d S p : Nat} {V : cr_Hp} {b : Nat → Int32} (hB : cr_B b n k) (hR : cr_R B (B + 1) (B + 2) V b n k) (hj : j < n) (hd : d < 8) (hS1 : 1 ≤ S) (hS : S ≤ 40) (hp : p < 3) :
    ∃ m dx dy S' h w ht b1 W, sp_E n k (j, cr_sx d, cr_sy d, S, 0, 0, fun _ => false, b) (m, dx, dy, S', h, w, ht, b1) ∧ f_L_flick (B + 4) B (B + 1) (B + 2) (B + 3) (nI p) (nI j) (nI d) (nI S) V = some W ∧ cr_R B (B + 1) (B + 2) W (sp_af k n (nI p) b h w ht b1) n k ∧ W (B + 3) 0 = (sp_tk k (nI p) (sp_ra b k) ht b1 n).2.1 ∧ W (B + 3) 1 = (sp_tk k (nI p) (sp_ra b k) ht b1 n).2.2.1 ∧ W (B + 3) 2 = nI h ∧ W (B + 3) 3 = nI m ∧ W (B + 3) 4 = ((100 : Int32) * b1 (8 + 5 * m)) + b1 (8 + 5 * m + 1) ∧ cr_B (sp_af k n (nI p) b h w ht b1) n k ∧ ∀ c, c < B ∨ B + 6 ≤ c → W c = V c := by
  have hn := hB.1
  have hk := hB.2.1
  obtain ⟨V8, eV8⟩ : ∃ V8, V8 = cr_zr (cr_zr V (B + 4)) (B + 5) := ⟨_, rfl⟩
  have f8 : ∀ c, c ≠ B + 4 → c ≠ B + 5 → V8 c = V c := fun c h1 h2 => by rw [eV8, cr_zr_ne h2, cr_zr_ne h1]
  have z5 : V8 (B + 5) = fun _ => 0 := by rw [eV8, cr_zr_eq]
  obtain ⟨V1, e1, ra1, f1⟩ := cr_Lahead (x0 := nI p) (x1 := nI j) (x2 := nI d) (x3 := nI S) hB (hR.fr (f8 _ (by omega) (by omega)) (f8 _ (by omega) (by omega)) (f8 _ (by omega) (by omega)))
  have hR1 : cr_R B (B + 1) (B + 2) V1 b n k := hR.fr (by rw [f1 _ (by omega), f8 _ (by omega) (by omega)]) (by rw [f1 _ (by omega), f8 _ (by omega) (by omega)]) (by rw [f1 _ (by omega), f8 _ (by omega) (by omega)])
  have hK : sp_K n k j (cr_sx d) (cr_sy d) S 0 b := ⟨hB, hj, hS, by omega, (cr_d_sx ⟨d, hd⟩).1, (cr_d_sx ⟨d, hd⟩).2⟩
  have hRL : cr_RL B V V1 n k (sp_ra b k) (b 3) (b 4) (b 5) (b 7) 0 0 (fun _ => false) b := by
    refine ⟨?_, ra1, fun i hi => ⟨0, by omega, by rw [f1 _ (by omega), z5]; rfl, by simp⟩, fun c hc => by rw [f1 _ (by omega), f8 _ (by omega) (by omega)]⟩
    rw [Int32.add_zero, sp_ov_id]
    exact hR1
  obtain ⟨m, dx, dy, S', h, w, ht, b1, V2, zE, e2, ⟨r1, r2, r3, r4⟩, zK⟩ := cr_Lroll (x0 := nI p) cr_FU j S 0 (cr_sx d) (cr_sy d) 0 (nI S) (fun _ => false) b V1 hK hRL (show (60 - 0) * 41 + S < 100000 by omega) (fun h => by omega) (fun _ => rfl)
  have hm := zK.2.1
  have hm12 : m < 12 := by omega
  have hh60 := zK.2.2.2.1
  have m0 : V2 (B + 1) (5 * m) = b1 (8 + 5 * m) := (r1.m0 hm).trans (sp_ov_8 (by omega))
  have m1 : V2 (B + 1) (5 * m + 1) = b1 (8 + 5 * m + 1) := (r1.m1 hm).trans (sp_ov_8 (by omega))
  obtain ⟨V3, eV3⟩ : ∃ V3, V3 = cr_pt (cr_pt (cr_pt (cr_pt (cr_pt V2 (B + 3) 0 0) (B + 3) 1 0) (B + 3) 2 (nI h)) (B + 3) 3 (nI m)) (B + 3) 4 (((100 : Int32) * b1 (8 + 5 * m)) + b1 (8 + 5 * m + 1)) := ⟨_, rfl⟩
  have f3 : ∀ c, c ≠ B + 3 → V3 c = V2 c := fun c hc => by rw [eV3, cr_pt_ne hc, cr_pt_ne hc, cr_pt_ne hc, cr_pt_ne hc, cr_pt_ne hc]
  have o0 : V3 (B + 3) 0 = 0 := by rw [eV3]; simp [cr_pv]
  have o1 : V3 (B + 3) 1 = 0 := by rw [eV3]; simp [cr_pv]
  have o2 : V3 (B + 3) 2 = nI h := by rw [eV3]; simp [cr_pv]
  have o3 : V3 (B + 3) 3 = nI m := by rw [eV3]; simp [cr_pv]
  have o4 : V3 (B + 3) 4 = ((100 : Int32) * b1 (8 + 5 * m)) + b1 (8 + 5 * m + 1) := by rw [eV3]; simp [cr_pv]
  obtain ⟨V4, e4, t1, t2, t3, t4, t5⟩ := cr_Ltake (p := p) (ra := sp_ra b k) (ht := ht) (u14 := nI h) zK.1 hp (r1.fr (f3 _ (by omega)) (f3 _ (by omega)) (f3 _ (by omega))) (fun i hi => by rw [f3 _ (by omega)]; exact r2 i hi) (fun i hi => by
    obtain ⟨cnt, l1, l2, l3⟩ := r3 i hi
    exact ⟨cnt, by omega, by rw [f3 _ (by omega)]; exact l2, l3⟩) (fun i hi hl => by
    have e : b1 (8 + 5 * i + 4) = b (8 + 5 * i + 4) := sp_E_inv zE (fun i => ⟨by omega, by omega⟩)
    unfold sp_ra
    rw [if_neg (by rw [← e]; exact hl)]) o0 o1
  obtain ⟨q, eq⟩ : ∃ q, q = sp_tk k (nI p) (sp_ra b k) ht b1 n := ⟨_, rfl⟩
  have hB4 := sp_tk_B (ra := sp_ra b k) (ht := ht) zK.1 hp n (Nat.le_refl n)
  rw [← eq] at e4 t1 t2 t3 hB4
  obtain ⟨V5, eV5⟩ : ∃ V5, V5 = cr_pt (cr_pt (cr_pt V4 B 3 (b 3 + 1)) B 4 (b 4 + nI h)) B 5 (b 5 + q.2.1) := ⟨_, rfl⟩
  have f5 : ∀ c, c ≠ B → V5 c = V4 c := fun c hc => by rw [eV5, cr_pt_ne hc, cr_pt_ne hc, cr_pt_ne hc]
  have q3 : V4 B 3 = b 3 := t1.q 3 (by decide)
  have q4 : V4 B 4 = b 4 := t1.q 4 (by decide)
  have q5 : V4 B 5 = b 5 := t1.q 5 (by decide)
  have R5 : cr_R B (B + 1) (B + 2) V5 (sp_ov q.2.2.2 (b 3 + 1) (b 4 + nI h) (b 5 + q.2.1) (b 7 + w)) n k := by
    have R1 := ((t1.uq (t := 3) (v := b 3 + 1) (by omega) (by omega) (by decide)).uq (t := 4) (v := b 4 + nI h) (by omega) (by omega) (by decide)).uq (t := 5) (v := b 5 + q.2.1) (by omega) (by omega) (by decide)
    rw [sp_ov_3, sp_ov_4, sp_ov_5] at R1
    rw [eV5]; exact R1
  obtain ⟨V6, e6, R6, f6⟩ := cr_Lgrow (g := q.1) hB4 R5
  have low : ∀ t, t < 6 ∨ t = 7 → sp_gw q.1 q.2.2.2 k t = b t := fun t ht' => by
    rw [sp_gw_low ht', eq, sp_tk_low (by omega)]
    exact sp_E_inv zE (fun i => ⟨by omega, by omega⟩)
  refine ⟨m, dx, dy, S', h, w, ht, b1, V6, zE, ?_, ?_, ?_, ?_, ?_, ?_, ?_, cr_B_af zK.1 hp, fun c hc => ?_⟩
  · unfold f_L_flick
    rw [cr_lt_e, cr_lt_e, cr_lt_c (show B + 4 + 1 = B + 5 from rfl), cr_lt_e, ← eV8, e1, cr_bd_some, cr_Ldir hd]
    unfold f_L_flick_b123
    have e2 : cr_it (fun (q : Int32 × Int32 × Int32 × Int32 × Int32 × cr_Hp) => f_L_flick_l134 B (B + 1) (B + 2) (B + 3) (B + 4) (B + 5) (nI p) q.1 q.2.1 q.2.2.1 q.2.2.2.1 q.2.2.2.2.1 q.2.2.2.2.2) cr_FU (cr_sx d, cr_sy d, nI j, nI S, (0 : Int32), V1) = some (nI m, nI h, V2) := e2
    rw [e2, cr_bd_some, cr_u3_e]
    unfold f_L_flick_b411
    rw [cr_K0, cr_lt_c (show cr_pt V2 (B + 3) (0 : Int32).toNatClampNeg (0 : Int32) = cr_pt V2 (B + 3) 0 0 by rw [cr_T0]), cr_K1, cr_lt_c (show cr_pt (cr_pt V2 (B + 3) 0 0) (B + 3) (1 : Int32).toNatClampNeg (0 : Int32) = cr_pt (cr_pt V2 (B + 3) 0 0) (B + 3) 1 0 by rw [cr_T1]), cr_K2, cr_lt_c (show cr_pt (cr_pt (cr_pt V2 (B + 3) 0 0) (B + 3) 1 0) (B + 3) (2 : Int32).toNatClampNeg (nI h) = cr_pt (cr_pt (cr_pt V2 (B + 3) 0 0) (B + 3) 1 0) (B + 3) 2 (nI h) by rw [cr_T2]), cr_K3, cr_lt_c (show cr_pt (cr_pt (cr_pt (cr_pt V2 (B + 3) 0 0) (B + 3) 1 0) (B + 3) 2 (nI h)) (B + 3) (3 : Int32).toNatClampNeg (nI m) = cr_pt (cr_pt (cr_pt (cr_pt V2 (B + 3) 0 0) (B + 3) 1 0) (B + 3) 2 (nI h)) (B + 3) 3 (nI m) by rw [cr_T3]), cr_g50 hm12, cr_g51 hm12, cr_K4, cr_lt_c (show cr_pt (cr_pt (cr_pt (cr_pt (cr_pt V2 (B + 3) 0 0) (B + 3) 1 0) (B + 3) 2 (nI h)) (B + 3) 3 (nI m)) (B + 3) (4 : Int32).toNatClampNeg (((100 : Int32) * (cr_pt (cr_pt (cr_pt (cr_pt V2 (B + 3) 0 0) (B + 3) 1 0) (B + 3) 2 (nI h)) (B + 3) 3 (nI m)) (B + 1) ((5 : Int32) * nI m).toNatClampNeg) + (cr_pt (cr_pt (cr_pt (cr_pt V2 (B + 3) 0 0) (B + 3) 1 0) (B + 3) 2 (nI h)) (B + 3) 3 (nI m)) (B + 1) (((5 : Int32) * nI m) + (1 : Int32)).toNatClampNeg) = V3 by
      rw [cr_T4, eV3, cr_pt_ne (show B + 1 ≠ B + 3 by omega), cr_pt_ne (show B + 1 ≠ B + 3 by omega), cr_pt_ne (show B + 1 ≠ B + 3 by omega), cr_pt_ne (show B + 1 ≠ B + 3 by omega), cr_t50 hm12, cr_t51 hm12, m0, m1]), e4, cr_bd_some, cr_u2_e, cr_H3, cr_H3, cr_lt_c (show cr_pt V4 B (3 : Int32).toNatClampNeg (V4 B (3 : Int32).toNatClampNeg + (1 : Int32)) = cr_pt V4 B 3 (b 3 + 1) by rw [cr_T3, q3]), cr_H4, cr_H4, cr_lt_c (show cr_pt (cr_pt V4 B 3 (b 3 + 1)) B (4 : Int32).toNatClampNeg (cr_pt V4 B 3 (b 3 + 1) B (4 : Int32).toNatClampNeg + nI h) = cr_pt (cr_pt V4 B 3 (b 3 + 1)) B 4 (b 4 + nI h) by rw [cr_T4, cr_pv, if_neg (by omega), q4]), cr_H5, cr_K0, cr_H5, cr_lt_c (show cr_pt (cr_pt (cr_pt V4 B 3 (b 3 + 1)) B 4 (b 4 + nI h)) B (5 : Int32).toNatClampNeg (cr_pt (cr_pt V4 B 3 (b 3 + 1)) B 4 (b 4 + nI h) B (5 : Int32).toNatClampNeg + cr_pt (cr_pt V4 B 3 (b 3 + 1)) B 4 (b 4 + nI h) (B + 3) (0 : Int32).toNatClampNeg) = V5 by
      have x5 : cr_pt (cr_pt V4 B 3 (b 3 + 1)) B 4 (b 4 + nI h) B 5 = b 5 := by rw [cr_pv, if_neg (by omega), cr_pv, if_neg (by omega), q5]
      rw [cr_T5, cr_T0, x5, cr_pt_ne (show B + 3 ≠ B by omega), cr_pt_ne (show B + 3 ≠ B by omega), t2, eV5]), e6, cr_bd_some]
  · have ez : sp_ov (sp_gw q.1 q.2.2.2 k) (b 3 + 1) (b 4 + nI h) (b 5 + q.2.1) (b 7 + w) = sp_af k n (nI p) b h w ht b1 := by
      unfold sp_af
      rw [← eq, sp_nu_ov, low 3 (by omega), low 4 (by omega), low 5 (by omega), low 7 (by omega)]
    rw [← ez]; exact R6
  · rw [f6 _ (by omega) (by omega), f5 _ (by omega), ← eq]; exact t2
  · rw [f6 _ (by omega) (by omega), f5 _ (by omega), ← eq]; exact t3
  · rw [f6 _ (by omega) (by omega), f5 _ (by omega), t4 _ (by omega)]; exact o2
  · rw [f6 _ (by omega) (by omega), f5 _ (by omega), t4 _ (by omega)]; exact o3
  · rw [f6 _ (by omega) (by omega), f5 _ (by omega), t4 _ (by omega)]; exact o4
  · rw [f6 _ (by omega) (by omega), f5 _ (by omega), t5 _ (by omega) (by omega), f3 _ (by omega)]; exact r4 c hc
