/-! after every act all that is asked agrees -/
theorem cr_Lmarble {aq am ar n k j : Nat} {V : cr_Hp} {b : Nat → Int32} {x1 : Int32} (hB : cr_B b n k) (hC : cr_C 0 V b n k) (hR : cr_R aq am ar V b n k) (hj : j < n) : f_L_same_l34 aq am ar x1 (nI j) V = some (.inl (nI (j + 1))) := by
  have hn := hB.1
  have h12 : j < 12 := by omega
  obtain ⟨X, Y, s, o, hX, hY, -, -, -, eX, eY, -, -, -⟩ := hB.2.2.2.2.2.1 j hj
  have way : ∀ z : Int32, ∃ r, cr_it (fun (q : Int32 × Int32) => f_L_same_l251 aq am ar x1 (nI j) z (b (8 + 5 * j)) (b (8 + 5 * j + 1)) (sp_rs b (b (8 + 5 * j)) (b (8 + 5 * j + 1)) k) q.1 q.2 V) cr_FU ((if sp_rs b (b (8 + 5 * j)) (b (8 + 5 * j + 1)) k = 0 then (0 : Int32) else (-1006 : Int32)), (30 : Int32)) = some r ∧ (cr_lie b j → f_X7_wayOut (nI j) V = some r) := by
    intro z
    by_cases h0 : sp_rs b (b (8 + 5 * j)) (b (8 + 5 * j + 1)) k = 0
    · rw [if_pos h0]
      refine ⟨0, ?_, fun l => ?_⟩
      · rw [h0]; exact cr_Lway0
      · exact (cr_qway hB hC hj l).1 0 (by omega) ⟨0, by decide, (cr_od0 hB hj).mpr h0⟩ (fun e he => absurd he (by omega))
    · rw [if_neg h0]
      obtain ⟨r, e, r1, r2⟩ := cr_Lway (x1 := x1) (x5 := nI j) (z0 := z) (X := b (8 + 5 * j)) (Y := b (8 + 5 * j + 1)) hB hR h0
      refine ⟨r, e, fun l => ?_⟩
      have n0 : ¬ sp_ow b k (b (8 + 5 * j)) (b (8 + 5 * j + 1)) 0 := fun ⟨d, hd, h⟩ => h0 ((cr_od0 hB hj).mp h)
      rcases cr_least (P := fun s => sp_ow b k (b (8 + 5 * j)) (b (8 + 5 * j + 1)) s) 31 with ⟨s, hs, ho, hl⟩ | hno
      · have s1 : 1 ≤ s := by
          rcases Nat.eq_zero_or_pos s with h | h
          · rw [h] at ho; exact absurd ho n0
          · exact h
        rw [r1 s s1 (by omega) ho (fun e _ he => hl e he)]
        exact (cr_qway hB hC hj l).1 s (by omega) ho hl
      · rw [r2 (fun e _ he => hno e (by omega))]
        exact (cr_qway hB hC hj l).2 (fun e he => hno e (by omega))
  unfold f_L_same_l34
  rw [cr_H0, cr_T0, hR.q 0 (by decide), hB.2.2.1, if_neg (nI_ge hj (by omega)), cr_g54 h12, cr_t54 h12, hR.m4 hj]
  by_cases l : cr_lie b j
  · rw [if_neg (cr_lie_n l)]
    obtain ⟨r, w1, w2⟩ := way (1 : Int32)
    unfold f_L_same_b58 f_L_same_b110 f_L_same_b133 f_L_same_b210 f_L_same_b233 f_L_same_b245 f_L_same_b358 f_L_same_b377
    have hat : f_X7_at (b (8 + 5 * j)) (b (8 + 5 * j + 1)) V = some (nI j) := by
      rw [eX, eY]
      exact cr_qat_s hB hC hX hY hj ⟨l, eX, eY⟩
    have e1 : (if sp_rs b (b (8 + 5 * j)) (b (8 + 5 * j + 1)) k = 0 then cr_bd (cr_it (fun (q : Int32 × Int32) => f_L_same_l251 aq am ar x1 (nI j) (1 : Int32) (b (8 + 5 * j)) (b (8 + 5 * j + 1)) (sp_rs b (b (8 + 5 * j)) (b (8 + 5 * j + 1)) k) q.1 q.2 V) cr_FU ((0 : Int32), (30 : Int32))) (fun (u10_251_358 : Int32) => cr_bd (f_X7_wayOut (nI j) V) (fun (r361 : Int32) => if (1 : Int32) = 0 then (if r361 = (-1003 : Int32) then (some (.inl (nI j + (1 : Int32)))) else (none)) else (if r361 = u10_251_358 then (some (.inl (nI j + (1 : Int32)))) else (none)))) else cr_bd (cr_it (fun (q : Int32 × Int32) => f_L_same_l251 aq am ar x1 (nI j) (1 : Int32) (b (8 + 5 * j)) (b (8 + 5 * j + 1)) (sp_rs b (b (8 + 5 * j)) (b (8 + 5 * j + 1)) k) q.1 q.2 V) cr_FU ((-1006 : Int32), (30 : Int32))) (fun (u10_251_358 : Int32) => cr_bd (f_X7_wayOut (nI j) V) (fun (r361 : Int32) => if (1 : Int32) = 0 then (if r361 = (-1003 : Int32) then (some (.inl (nI j + (1 : Int32)))) else (none)) else (if r361 = u10_251_358 then (some (.inl (nI j + (1 : Int32)))) else (none)))) : Option (Int32 ⊕ Unit)) = some (.inl (nI (j + 1))) := by
      by_cases h0 : sp_rs b (b (8 + 5 * j)) (b (8 + 5 * j + 1)) k = 0
      · rw [if_pos h0] at w1 ⊢
        rw [w1, cr_bd_some, w2 l, cr_bd_some, if_neg (by decide), if_pos rfl, cr_1]
      · rw [if_neg h0] at w1 ⊢
        rw [w1, cr_bd_some, w2 l, cr_bd_some, if_neg (by decide), if_pos rfl, cr_1]
    rw [cr_g50 h12, cr_t50 h12, cr_lt_e, cr_g51 h12, cr_t51 h12, cr_lt_e, hR.m0 hj, hR.m1 hj, cr_Lrings hB hR, cr_bd_some, cr_qm0l hB hC hj l, cr_bd_some, if_neg (by decide), if_pos rfl, cr_qm1l hB hC hj l, cr_bd_some, if_neg (by decide), if_pos rfl, cr_qm2 hB hC hj, cr_bd_some, cr_g52 h12, cr_t52 h12, hR.m2 hj, if_pos rfl, cr_qm3 hB hC hj, cr_bd_some, cr_g53 h12, cr_t53 h12, hR.m3 hj, if_pos rfl, cr_qm4 hB hC hj, cr_bd_some, cr_g54 h12, cr_t54 h12, hR.m4 hj, if_pos rfl, cr_qm5l hB hC hj l, cr_bd_some, if_neg (by decide), if_pos rfl, if_neg (by decide), hat, cr_bd_some, if_pos rfl]
    exact e1
  · rw [if_pos (cr_won_p hB hj l)]
    obtain ⟨r, w1, -⟩ := way (0 : Int32)
    unfold f_L_same_b58 f_L_same_b110 f_L_same_b133 f_L_same_b210 f_L_same_b233 f_L_same_b245 f_L_same_b358 f_L_same_b377
    have e1 : (if sp_rs b (b (8 + 5 * j)) (b (8 + 5 * j + 1)) k = 0 then cr_bd (cr_it (fun (q : Int32 × Int32) => f_L_same_l251 aq am ar x1 (nI j) (0 : Int32) (b (8 + 5 * j)) (b (8 + 5 * j + 1)) (sp_rs b (b (8 + 5 * j)) (b (8 + 5 * j + 1)) k) q.1 q.2 V) cr_FU ((0 : Int32), (30 : Int32))) (fun (u10_251_358 : Int32) => cr_bd (f_X7_wayOut (nI j) V) (fun (r361 : Int32) => if (0 : Int32) = 0 then (if r361 = (-1003 : Int32) then (some (.inl (nI j + (1 : Int32)))) else (none)) else (if r361 = u10_251_358 then (some (.inl (nI j + (1 : Int32)))) else (none)))) else cr_bd (cr_it (fun (q : Int32 × Int32) => f_L_same_l251 aq am ar x1 (nI j) (0 : Int32) (b (8 + 5 * j)) (b (8 + 5 * j + 1)) (sp_rs b (b (8 + 5 * j)) (b (8 + 5 * j + 1)) k) q.1 q.2 V) cr_FU ((-1006 : Int32), (30 : Int32))) (fun (u10_251_358 : Int32) => cr_bd (f_X7_wayOut (nI j) V) (fun (r361 : Int32) => if (0 : Int32) = 0 then (if r361 = (-1003 : Int32) then (some (.inl (nI j + (1 : Int32)))) else (none)) else (if r361 = u10_251_358 then (some (.inl (nI j + (1 : Int32)))) else (none)))) : Option (Int32 ⊕ Unit)) = some (.inl (nI (j + 1))) := by
      by_cases h0 : sp_rs b (b (8 + 5 * j)) (b (8 + 5 * j + 1)) k = 0
      · rw [if_pos h0] at w1 ⊢
        rw [w1, cr_bd_some, cr_way0 hB hC hj l, cr_bd_some, if_pos (by decide), if_pos rfl, cr_1]
      · rw [if_neg h0] at w1 ⊢
        rw [w1, cr_bd_some, cr_way0 hB hC hj l, cr_bd_some, if_pos (by decide), if_pos rfl, cr_1]
    rw [cr_g50 h12, cr_t50 h12, cr_lt_e, cr_g51 h12, cr_t51 h12, cr_lt_e, hR.m0 hj, hR.m1 hj, cr_Lrings hB hR, cr_bd_some, cr_qm0w hB hC hj l, cr_bd_some, if_pos (by decide), if_pos rfl, cr_qm1w hB hC hj l, cr_bd_some, if_pos (by decide), if_pos rfl, cr_qm2 hB hC hj, cr_bd_some, cr_g52 h12, cr_t52 h12, hR.m2 hj, if_pos rfl, cr_qm3 hB hC hj, cr_bd_some, cr_g53 h12, cr_t53 h12, hR.m3 hj, if_pos rfl, cr_qm4 hB hC hj, cr_bd_some, cr_g54 h12, cr_t54 h12, hR.m4 hj, if_pos rfl, cr_qm5w hB hC hj l, cr_bd_some, if_pos (by decide), if_pos rfl, if_pos (by decide)]
    exact e1
theorem cr_Lset {aq am ar n k r : Nat} {V : cr_Hp} {b : Nat → Int32} {x1 : Int32} (hB : cr_B b n k) (hR : cr_R aq am ar V b n k) (hr : r < k) : cr_it (fun (q : Int32 × Int32) => f_L_same_l408 aq am ar x1 (nI r) q.1 q.2 V) cr_FU ((0 : Int32), (0 : Int32)) = some (sp_mi b r n) := by
  have hn := hB.1
  have hk := hB.2.1
  refine cr_it_for (fun i => (sp_mi b r i, nI i)) n rfl ?_ ?_ (by omega)
  · intro j hj
    have h12 : j < 12 := by omega
    show f_L_same_l408 aq am ar x1 (nI r) (sp_mi b r j) (nI j) V = some (.inl (sp_mi b r (j + 1), nI (j + 1)))
    unfold f_L_same_l408
    rw [cr_H0, cr_T0, hR.q 0 (by decide), hB.2.2.1, if_neg (nI_ge hj (by omega)), cr_g54 h12, cr_t54 h12, hR.m4 hj, cr_1]
    by_cases l : cr_lie b j
    · rw [if_neg (cr_lie_n l), cr_g50 h12, cr_g51 h12, cr_t50 h12, cr_t51 h12, hR.m0 hj, hR.m1 hj, cr_Lin hk hR hr, cr_bd_some]
      simp only [sp_mi, if_pos l]
      by_cases c1 : cr_out b r (b (8 + 5 * j)) (b (8 + 5 * j + 1))
      · rw [if_pos c1, if_pos rfl, if_pos c1, cr_or0]
      · rw [if_neg c1, if_neg (by decide), if_neg c1]
    · rw [if_pos (cr_won_p hB hj l), cr_or0]
      simp only [sp_mi, if_neg l]
  · show f_L_same_l408 aq am ar x1 (nI r) (sp_mi b r n) (nI n) V = _
    unfold f_L_same_l408
    rw [cr_H0, cr_T0, hR.q 0 (by decide), hB.2.2.1, if_pos (nI_le (Nat.le_refl n) (by omega))]
def sp_pp (b : Nat → Int32) (r i : Nat) : Int32 := sp_p1 b r (nI (i / 31)) (sp_p2 b r (i / 31)) (i % 31)
theorem sp_pp_s {b : Nat → Int32} {r i : Nat} : sp_pp b r (i + 1) = if cr_out b r (nI (i / 31)) (nI (i % 31)) then sp_pp b r i else sp_pp b r i + 1 := by
  have key : sp_p1 b r (nI (i / 31)) (sp_p2 b r (i / 31)) (i % 31 + 1) = if cr_out b r (nI (i / 31)) (nI (i % 31)) then sp_pp b r i else sp_pp b r i + 1 := rfl
  rw [← key]
  unfold sp_pp
  by_cases h : i % 31 = 30
  · have e1 : (i + 1) / 31 = i / 31 + 1 := by omega
    have e2 : (i + 1) % 31 = 0 := by omega
    rw [e1, e2, h]
    rfl
  · have e1 : (i + 1) / 31 = i / 31 := by omega
    have e2 : (i + 1) % 31 = i % 31 + 1 := by omega
    rw [e1, e2]
theorem cr_Lpts {aq am ar n k r : Nat} {V : cr_Hp} {b : Nat → Int32} {x1 u : Int32} (hB : cr_B b n k) (hR : cr_R aq am ar V b n k) (hr : r < k) : cr_it (fun (q : Int32 × Int32) => f_L_same_l473 aq am ar x1 (nI r) u q.1 q.2 V) cr_FU ((0 : Int32), (0 : Int32)) = some (sp_p2 b r 31) := by
  have hk := hB.2.1
  obtain ⟨N, hN⟩ : ∃ N, N = 961 := ⟨961, rfl⟩
  have hz : sp_p2 b r 31 = sp_pp b r N := by rw [hN]; rfl
  rw [hz]
  refine cr_it_for (fun i => (sp_pp b r i, nI i)) N rfl ?_ ?_ (by omega)
  · intro i hi
    show f_L_same_l473 aq am ar x1 (nI r) u (sp_pp b r i) (nI i) V = some (.inl (sp_pp b r (i + 1), nI (i + 1)))
    unfold f_L_same_l473
    have e31 : (31 : Int32) = nI 31 := rfl
    have e961 : ¬ (961 : Int32) ≤ nI i := by
      rw [show (961 : Int32) = nI 961 from rfl]; exact nI_ge (by omega) (by decide)
    have d1 : nI i / (31 : Int32) = nI (i / 31) := by rw [e31]; exact pk_div (by omega) (by decide) (by decide)
    have d2 : nI i - nI i / (31 : Int32) * (31 : Int32) = nI (i % 31) := by rw [e31]; exact pk_rem (by omega) (by decide) (by decide)
    rw [if_neg e961, d2, d1, cr_Lin hk hR hr, cr_bd_some, cr_1, sp_pp_s]
    by_cases c1 : cr_out b r (nI (i / 31)) (nI (i % 31))
    · rw [if_pos c1, if_pos rfl, if_pos c1, Int32.add_zero]
    · rw [if_neg c1, if_neg (by decide), if_neg c1]
  · show f_L_same_l473 aq am ar x1 (nI r) u (sp_pp b r N) (nI N) V = _
    unfold f_L_same_l473
    rw [if_pos (show (961 : Int32) ≤ nI N by rw [hN]; decide)]
theorem cr_Lring {aq am ar n k r : Nat} {V : cr_Hp} {b : Nat → Int32} {x1 : Int32} (hB : cr_B b n k) (hC : cr_C 0 V b n k) (hR : cr_R aq am ar V b n k) (hr : r < k) : f_L_same_l391 aq am ar x1 (nI r) V = some (.inl (nI (r + 1))) := by
  have hk := hB.2.1
  have h4 : r < 4 := by omega
  unfold f_L_same_l391
  rw [cr_H1, cr_T1, hR.q 1 (by decide), hB.2.2.2.1, if_neg (nI_ge hr (by omega)), cr_Lset hB hR hr, cr_bd_some, cr_Lpts hB hR hr, cr_bd_some, cr_qr0 hB hC hr, cr_bd_some, cr_g30 h4, cr_t30 h4, hR.r0 hr, if_pos rfl, cr_qr1 hB hC hr, cr_bd_some, cr_g31 h4, cr_t31 h4, hR.r1 hr, if_pos rfl, cr_qr2 hB hC hr, cr_bd_some, cr_g32 h4, cr_t32 h4, hR.r2 hr, if_pos rfl, cr_qr3 hB hC hr, cr_bd_some, if_pos rfl, cr_qr4 hB hC hr, cr_bd_some, if_pos rfl, cr_1]
theorem sp_ld_n {b : Nat → Int32} {n : Nat} : ∀ i, i ≤ 2 → ∃ q, q < 3 ∧ sp_ld b n i = nI q
  | 0, _ => ⟨0, by decide, rfl⟩
  | i + 1, h => by
    unfold sp_ld
    by_cases hc : sp_sc b (nI (i + 1)) n ≤ sp_sc b (sp_ld b n i) n
    · rw [if_pos hc]; exact sp_ld_n i (by omega)
    · rw [if_neg hc]; exact ⟨i + 1, by omega, rfl⟩
theorem cr_Lbest {aq am ar n k : Nat} {V : cr_Hp} {b : Nat → Int32} {x1 : Int32} (hB : cr_B b n k) (hC : cr_C 0 V b n k) (hR : cr_R aq am ar V b n k) : cr_it (fun (q : Int32 × Int32) => f_L_same_l610 aq am x1 q.1 q.2 V) cr_FU ((0 : Int32), (0 : Int32)) = some (sp_ld b n 2) := by
  refine cr_it_for (fun i => (sp_ld b n (i - 1), nI i)) 3 rfl ?_ ?_ (by decide)
  · intro p hp
    show f_L_same_l610 aq am x1 (sp_ld b n (p - 1)) (nI p) V = some (.inl (sp_ld b n (p + 1 - 1), nI (p + 1)))
    obtain ⟨q, hq, eq⟩ := sp_ld_n (b := b) (n := n) (p - 1) (by omega)
    unfold f_L_same_l610
    rw [cr_L3, if_neg (nI_ge hp (by decide)), cr_qscore hB hC hp, cr_bd_some, cr_Lscore hB hR hp, cr_bd_some, if_pos rfl, cr_bd_some, eq, cr_Lscore hB hR hq, cr_bd_some, ← eq, cr_1]
    rcases Nat.eq_zero_or_pos p with h0 | h0
    · subst h0
      rw [if_pos (show sp_sc b (nI 0) n ≤ sp_sc b (sp_ld b n (0 - 1)) n from Int32.le_refl _)]
    · have e : sp_ld b n (p + 1 - 1) = if sp_sc b (nI p) n ≤ sp_sc b (sp_ld b n (p - 1)) n then sp_ld b n (p - 1) else nI p := by
        obtain ⟨i, rfl⟩ : ∃ i, p = i + 1 := ⟨p - 1, by omega⟩
        rfl
      rw [e]
      by_cases hc : sp_sc b (nI p) n ≤ sp_sc b (sp_ld b n (p - 1)) n
      · rw [if_pos hc, if_pos hc]
      · rw [if_neg hc, if_neg hc]
  · show f_L_same_l610 aq am x1 (sp_ld b n (3 - 1)) (nI 3) V = _
    unfold f_L_same_l610
    rw [cr_L3, if_pos (nI_le (Nat.le_refl 3) (by decide))]
theorem cr_Lsame {aq am ar n k : Nat} {V : cr_Hp} {b : Nat → Int32} {x1 : Int32} (hB : cr_B b n k) (hC : cr_C 0 V b n k) (hR : cr_R aq am ar V b n k) : f_L_same aq am ar x1 V = some 1 := by
  have hn := hB.1
  have hk := hB.2.1
  obtain ⟨X, hX, eX⟩ := cr_Llow x1 (M := 31) (by decide) (by decide)
  obtain ⟨Y, hY, eY⟩ := cr_Llow (x1 >>> ((5 : Int32) &&& 31)) (M := 31) (by decide) (by decide)
  obtain ⟨r, r1, r2⟩ := cr_qat (X := X) (Y := Y) hB hC hR (by omega) (by omega)
  have e31 : (31 : Int32) = nI 31 := rfl
  have eX : f_L_low x1 (31 : Int32) = some (nI X) := eX
  have eY : f_L_low (x1 >>> ((5 : Int32) &&& 31)) (31 : Int32) = some (nI Y) := eY
  have c1 : cr_it (fun (q : Int32) => f_L_same_l3 aq am ar x1 q V) cr_FU (0 : Int32) = some () := by
    refine cr_it_for (fun i => nI i) 8 rfl ?_ ?_ (by decide)
    · intro i hi
      show f_L_same_l3 aq am ar x1 (nI i) V = _
      unfold f_L_same_l3
      rw [cr_L8, if_neg (nI_ge hi (by decide)), cr_qcount hC hi, cr_bd_some, cr_gz hi (by decide), nI_clamp (by omega), hR.q i hi, if_pos rfl, cr_1]
    · show f_L_same_l3 aq am ar x1 (nI 8) V = _
      unfold f_L_same_l3
      rw [cr_L8, if_pos (nI_le (Nat.le_refl 8) (by decide))]
  have c2 : cr_it (fun (q : Int32) => f_L_same_l34 aq am ar x1 q V) cr_FU (0 : Int32) = some () := by
    refine cr_it_for (fun i => nI i) n rfl (fun i hi => cr_Lmarble hB hC hR hi) ?_ (by omega)
    show f_L_same_l34 aq am ar x1 (nI n) V = _
    unfold f_L_same_l34
    rw [cr_H0, cr_T0, hR.q 0 (by decide), hB.2.2.1, if_pos (nI_le (Nat.le_refl n) (by omega))]
  have c3 : cr_it (fun (q : Int32) => f_L_same_l391 aq am ar x1 q V) cr_FU (0 : Int32) = some () := by
    refine cr_it_for (fun i => nI i) k rfl (fun i hi => cr_Lring hB hC hR hi) ?_ (by omega)
    show f_L_same_l391 aq am ar x1 (nI k) V = _
    unfold f_L_same_l391
    rw [cr_H1, cr_T1, hR.q 1 (by decide), hB.2.2.2.1, if_pos (nI_le (Nat.le_refl k) (by omega))]
  unfold f_L_same
  rw [c1, cr_bd_some, c2, cr_bd_some, c3, cr_bd_some, cr_Lbest hB hC hR, cr_bd_some, cr_leader hB hC, cr_bd_some, if_pos rfl, eX, cr_bd_some, eY, cr_bd_some, r1, cr_bd_some, cr_bd_some, cr_bd_some, r2, cr_bd_some, if_pos rfl, cr_H0, cr_T0, hR.q 0 (by decide), hB.2.2.1, cr_qm_no hB hC, cr_bd_some, if_pos rfl, cr_H1, cr_T1, hR.q 1 (by decide), hB.2.2.2.1, cr_qr_no hB hC, cr_bd_some, if_pos rfl]
