/-! the law's arrays show a board; its asking methods -/
def cr_R (aq am ar : Nat) (V : cr_Hp) (b : Nat → Int32) (n k : Nat) : Prop := (∀ t, t < 8 → V aq t = b t) ∧ (∀ j c, j < n → c < 5 → V am (5 * j + c) = b (8 + 5 * j + c)) ∧ ∀ r c, r < k → c < 3 → V ar (3 * r + c) = b (68 + 3 * r + c)
theorem cr_R.q {aq am ar : Nat} {V : cr_Hp} {b : Nat → Int32} {n k : Nat} (h : cr_R aq am ar V b n k) (t : Nat) (ht : t < 8) : V aq t = b t := h.1 t ht
theorem cr_R.m0 {aq am ar : Nat} {V : cr_Hp} {b : Nat → Int32} {n k j : Nat} (h : cr_R aq am ar V b n k) (hj : j < n) : V am (5 * j) = b (8 + 5 * j) := h.2.1 j 0 hj (by decide)
theorem cr_R.r0 {aq am ar : Nat} {V : cr_Hp} {b : Nat → Int32} {n k r : Nat} (h : cr_R aq am ar V b n k) (hr : r < k) : V ar (3 * r) = b (68 + 3 * r) := h.2.2 r 0 hr (by decide)
theorem cr_t50 {j : Nat} (h : j < 12) : ((5 : Int32) * nI j).toNatClampNeg = 5 * j := by rw [cr_L5, pk_mul, nI_clamp (by omega)]
theorem cr_t30 {j : Nat} (h : j < 4) : ((3 : Int32) * nI j).toNatClampNeg = 3 * j := by rw [cr_L3, pk_mul, nI_clamp (by omega)]
theorem cr_t5c {j c : Nat} (h : 5 * j + c < 60) : (((5 : Int32) * nI j) + nI c).toNatClampNeg = 5 * j + c := by rw [cr_L5, pk_mul, nI_add, nI_clamp (by omega)]
theorem cr_t3c {j c : Nat} (h : 3 * j + c < 12) : (((3 : Int32) * nI j) + nI c).toNatClampNeg = 3 * j + c := by rw [cr_L3, pk_mul, nI_add, nI_clamp (by omega)]
theorem cr_g50 {β : Type} {o : Option β} {j : Nat} (h : j < 12) : cr_gd (cr_ix ((5 : Int32) * nI j) 60) o = o := cr_gd_e (by rw [cr_L5, pk_mul]; exact cr_ix_nI (by omega) (by decide))
theorem cr_g30 {β : Type} {o : Option β} {j : Nat} (h : j < 4) : cr_gd (cr_ix ((3 : Int32) * nI j) 12) o = o := cr_gd_e (by rw [cr_L3, pk_mul]; exact cr_ix_nI (by omega) (by decide))
theorem cr_g5c {β : Type} {o : Option β} {j c : Nat} (h : 5 * j + c < 60) : cr_gd (cr_ix (((5 : Int32) * nI j) + nI c) 60) o = o := cr_gd_e (by rw [cr_L5, pk_mul, nI_add]; exact cr_ix_nI h (by decide))
theorem cr_g3c {β : Type} {o : Option β} {j c : Nat} (h : 3 * j + c < 12) : cr_gd (cr_ix (((3 : Int32) * nI j) + nI c) 12) o = o := cr_gd_e (by rw [cr_L3, pk_mul, nI_add]; exact cr_ix_nI h (by decide))
theorem cr_R.m1 {aq am ar : Nat} {V : cr_Hp} {b : Nat → Int32} {n k j : Nat} (h : cr_R aq am ar V b n k) (hj : j < n) : V am (5 * j + 1) = b (8 + 5 * j + 1) := h.2.1 j 1 hj (by decide)
theorem cr_t51 {j : Nat} (h : j < 12) : (((5 : Int32) * nI j) + (1 : Int32)).toNatClampNeg = 5 * j + 1 := cr_t5c (c := 1) (by omega)
theorem cr_g51 {β : Type} {o : Option β} {j : Nat} (h : j < 12) : cr_gd (cr_ix (((5 : Int32) * nI j) + (1 : Int32)) 60) o = o := cr_g5c (c := 1) (by omega)
theorem cr_R.m2 {aq am ar : Nat} {V : cr_Hp} {b : Nat → Int32} {n k j : Nat} (h : cr_R aq am ar V b n k) (hj : j < n) : V am (5 * j + 2) = b (8 + 5 * j + 2) := h.2.1 j 2 hj (by decide)
theorem cr_t52 {j : Nat} (h : j < 12) : (((5 : Int32) * nI j) + (2 : Int32)).toNatClampNeg = 5 * j + 2 := cr_t5c (c := 2) (by omega)
theorem cr_g52 {β : Type} {o : Option β} {j : Nat} (h : j < 12) : cr_gd (cr_ix (((5 : Int32) * nI j) + (2 : Int32)) 60) o = o := cr_g5c (c := 2) (by omega)
theorem cr_R.m3 {aq am ar : Nat} {V : cr_Hp} {b : Nat → Int32} {n k j : Nat} (h : cr_R aq am ar V b n k) (hj : j < n) : V am (5 * j + 3) = b (8 + 5 * j + 3) := h.2.1 j 3 hj (by decide)
theorem cr_t53 {j : Nat} (h : j < 12) : (((5 : Int32) * nI j) + (3 : Int32)).toNatClampNeg = 5 * j + 3 := cr_t5c (c := 3) (by omega)
theorem cr_g53 {β : Type} {o : Option β} {j : Nat} (h : j < 12) : cr_gd (cr_ix (((5 : Int32) * nI j) + (3 : Int32)) 60) o = o := cr_g5c (c := 3) (by omega)
theorem cr_R.m4 {aq am ar : Nat} {V : cr_Hp} {b : Nat → Int32} {n k j : Nat} (h : cr_R aq am ar V b n k) (hj : j < n) : V am (5 * j + 4) = b (8 + 5 * j + 4) := h.2.1 j 4 hj (by decide)
theorem cr_t54 {j : Nat} (h : j < 12) : (((5 : Int32) * nI j) + (4 : Int32)).toNatClampNeg = 5 * j + 4 := cr_t5c (c := 4) (by omega)
theorem cr_g54 {β : Type} {o : Option β} {j : Nat} (h : j < 12) : cr_gd (cr_ix (((5 : Int32) * nI j) + (4 : Int32)) 60) o = o := cr_g5c (c := 4) (by omega)
theorem cr_R.r1 {aq am ar : Nat} {V : cr_Hp} {b : Nat → Int32} {n k r : Nat} (h : cr_R aq am ar V b n k) (hr : r < k) : V ar (3 * r + 1) = b (68 + 3 * r + 1) := h.2.2 r 1 hr (by decide)
theorem cr_t31 {j : Nat} (h : j < 4) : (((3 : Int32) * nI j) + (1 : Int32)).toNatClampNeg = 3 * j + 1 := cr_t3c (c := 1) (by omega)
theorem cr_g31 {β : Type} {o : Option β} {j : Nat} (h : j < 4) : cr_gd (cr_ix (((3 : Int32) * nI j) + (1 : Int32)) 12) o = o := cr_g3c (c := 1) (by omega)
theorem cr_R.r2 {aq am ar : Nat} {V : cr_Hp} {b : Nat → Int32} {n k r : Nat} (h : cr_R aq am ar V b n k) (hr : r < k) : V ar (3 * r + 2) = b (68 + 3 * r + 2) := h.2.2 r 2 hr (by decide)
theorem cr_t32 {j : Nat} (h : j < 4) : (((3 : Int32) * nI j) + (2 : Int32)).toNatClampNeg = 3 * j + 2 := cr_t3c (c := 2) (by omega)
theorem cr_g32 {β : Type} {o : Option β} {j : Nat} (h : j < 4) : cr_gd (cr_ix (((3 : Int32) * nI j) + (2 : Int32)) 12) o = o := cr_g3c (c := 2) (by omega)
theorem cr_H0 {β : Type} {o : Option β} : cr_gd (cr_ix (0 : Int32) 8) o = o := cr_gd_e (by decide)
theorem cr_H1 {β : Type} {o : Option β} : cr_gd (cr_ix (1 : Int32) 8) o = o := cr_gd_e (by decide)
theorem cr_H2 {β : Type} {o : Option β} : cr_gd (cr_ix (2 : Int32) 8) o = o := cr_gd_e (by decide)
theorem cr_H3 {β : Type} {o : Option β} : cr_gd (cr_ix (3 : Int32) 8) o = o := cr_gd_e (by decide)
theorem cr_H4 {β : Type} {o : Option β} : cr_gd (cr_ix (4 : Int32) 8) o = o := cr_gd_e (by decide)
theorem cr_H5 {β : Type} {o : Option β} : cr_gd (cr_ix (5 : Int32) 8) o = o := cr_gd_e (by decide)
theorem cr_H6 {β : Type} {o : Option β} : cr_gd (cr_ix (6 : Int32) 8) o = o := cr_gd_e (by decide)
theorem cr_H7 {β : Type} {o : Option β} : cr_gd (cr_ix (7 : Int32) 8) o = o := cr_gd_e (by decide)
theorem cr_K0 {β : Type} {o : Option β} : cr_gd (cr_ix (0 : Int32) 5) o = o := cr_gd_e (by decide)
theorem cr_K1 {β : Type} {o : Option β} : cr_gd (cr_ix (1 : Int32) 5) o = o := cr_gd_e (by decide)
theorem cr_K2 {β : Type} {o : Option β} : cr_gd (cr_ix (2 : Int32) 5) o = o := cr_gd_e (by decide)
theorem cr_K3 {β : Type} {o : Option β} : cr_gd (cr_ix (3 : Int32) 5) o = o := cr_gd_e (by decide)
theorem cr_K4 {β : Type} {o : Option β} : cr_gd (cr_ix (4 : Int32) 5) o = o := cr_gd_e (by decide)
theorem cr_gz {β : Type} {o : Option β} {j N : Nat} (h : j < N) (hN : N < 2 ^ 31) : cr_gd (cr_ix (nI j) N) o = o := cr_gd_e (cr_ix_nI h hN)
theorem cr_Lin {aq am ar n k r : Nat} {V : cr_Hp} {b : Nat → Int32} {x y : Int32} (hk : k ≤ 4) (hR : cr_R aq am ar V b n k) (hr : r < k) : f_L_in ar (nI r) x y V = some (if cr_out b r x y then 0 else 1) := by
  have h4 : r < 4 := by omega
  unfold f_L_in
  rw [cr_g30 h4, cr_lt_e, cr_g31 h4, cr_lt_e, cr_g32 h4, cr_g32 h4, cr_t30 h4, cr_t31 h4, cr_t32 h4, hR.r0 hr, hR.r1 hr, hR.r2 hr]
  by_cases hc : cr_out b r x y
  · rw [if_pos hc, if_pos hc]
  · rw [if_neg hc, if_neg hc]
theorem cr_Lrings {aq am ar n k : Nat} {V : cr_Hp} {b : Nat → Int32} {x y : Int32} (hB : cr_B b n k) (hR : cr_R aq am ar V b n k) : f_L_rings aq ar x y V = some (sp_rs b x y k) := by
  have hk : k ≤ 4 := hB.2.1
  unfold f_L_rings
  refine Eq.trans (cr_bd_for (fun i => (sp_rs b x y i, nI i)) k (r := sp_rs b x y k) ?_ ?_ (by omega) rfl) rfl
  · intro r hr
    show f_L_rings_l6 aq ar x y (sp_rs b x y r) (nI r) V = _
    unfold f_L_rings_l6
    rw [cr_H1, cr_T1, hR.q 1 (by decide), hB.2.2.2.1, if_neg (nI_ge hr (by omega)), cr_Lin hk hR hr, cr_bd_some]
    by_cases hc : cr_out b r x y
    · rw [if_pos hc, if_pos rfl, cr_1, cr_or0]
      simp only [sp_rs, if_pos hc]
    · rw [if_neg hc, if_neg (by decide), cr_1]
      simp only [sp_rs, if_neg hc]
  · show f_L_rings_l6 aq ar x y (sp_rs b x y k) (nI k) V = _
    unfold f_L_rings_l6
    rw [cr_H1, cr_T1, hR.q 1 (by decide), hB.2.2.2.1, if_pos (nI_le (Nat.le_refl k) (by omega))]
theorem cr_lie_n {b : Nat → Int32} {j : Nat} (l : cr_lie b j) : ¬ 0 ≤ b (8 + 5 * j + 4) := by rw [show b (8 + 5 * j + 4) = -1006 from l]; decide
theorem cr_lie_l {b : Nat → Int32} {j : Nat} (l : cr_lie b j) : b (8 + 5 * j + 4) < 0 := by rw [show b (8 + 5 * j + 4) = -1006 from l]; decide
theorem cr_won_p {b : Nat → Int32} {n k j : Nat} (hB : cr_B b n k) (hj : j < n) (l : ¬ cr_lie b j) : 0 ≤ b (8 + 5 * j + 4) := by
  obtain ⟨v, hv, ev⟩ := cr_won hB hj l
  rw [ev]; exact nI_pos' (by omega)
theorem cr_won_l {b : Nat → Int32} {n k j : Nat} (hB : cr_B b n k) (hj : j < n) (l : ¬ cr_lie b j) : ¬ b (8 + 5 * j + 4) < 0 := by
  obtain ⟨v, hv, ev⟩ := cr_won hB hj l
  rw [ev]; exact nI_pos (by omega)
theorem cr_Lat_step {aq am ar n k j : Nat} {V : cr_Hp} {b : Nat → Int32} {x y : Int32} (hB : cr_B b n k) (hR : cr_R aq am ar V b n k) (hj : j < n) (h : ¬ cr_on_pt b j x y) : f_L_at_l3 aq am x y (nI j) V = some (.inl (nI (j + 1))) := by
  have hn := hB.1
  have h12 : j < 12 := by omega
  unfold f_L_at_l3
  rw [cr_H0, cr_T0, hR.q 0 (by decide), hB.2.2.1, if_neg (nI_ge hj (by omega)), cr_g54 h12, cr_t54 h12, hR.m4 hj, cr_1]
  by_cases l : cr_lie b j
  · rw [if_neg (cr_lie_n l), cr_g50 h12, cr_t50 h12, hR.m0 hj]
    by_cases hx : b (8 + 5 * j) = x
    · rw [if_pos hx, cr_g51 h12, cr_t51 h12, hR.m1 hj]
      by_cases hy : b (8 + 5 * j + 1) = y
      · exact absurd ⟨l, hx, hy⟩ h
      · rw [if_neg hy]
    · rw [if_neg hx]
  · rw [if_pos (cr_won_p hB hj l)]
theorem cr_Lat_s {aq am ar n k i : Nat} {V : cr_Hp} {b : Nat → Int32} {x y : Int32} (hB : cr_B b n k) (hR : cr_R aq am ar V b n k) (hi : i < n) (h : cr_on_pt b i x y) : f_L_at aq am x y V = some (nI i) := by
  have hn := hB.1
  have h12 : i < 12 := by omega
  unfold f_L_at
  refine Eq.trans (cr_bd_for (fun i => nI i) i (r := .inl (nI i)) ?_ ?_ (by omega) rfl) rfl
  · intro j hj
    exact cr_Lat_step hB hR (by omega) (fun hh => by have := cr_pt_one hB (show j < n by omega) hi hh h; omega)
  · show f_L_at_l3 aq am x y (nI i) V = _
    unfold f_L_at_l3
    rw [cr_H0, cr_T0, hR.q 0 (by decide), hB.2.2.1, if_neg (nI_ge hi (by omega)), cr_g54 h12, cr_t54 h12, hR.m4 hi, if_neg (cr_lie_n h.1), cr_g50 h12, cr_t50 h12, hR.m0 hi, if_pos h.2.1, cr_g51 h12, cr_t51 h12, hR.m1 hi, if_pos h.2.2]
theorem cr_Lat_n {aq am ar n k : Nat} {V : cr_Hp} {b : Nat → Int32} {x y : Int32} (hB : cr_B b n k) (hR : cr_R aq am ar V b n k) (h : ∀ i, i < n → ¬ cr_on_pt b i x y) : f_L_at aq am x y V = some (-1006) := by
  have hn := hB.1
  unfold f_L_at
  refine Eq.trans (cr_bd_for (fun i => nI i) n (r := .inr ()) ?_ ?_ (by omega) rfl) rfl
  · intro j hj
    exact cr_Lat_step hB hR hj (h j hj)
  · show f_L_at_l3 aq am x y (nI n) V = _
    unfold f_L_at_l3
    rw [cr_H0, cr_T0, hR.q 0 (by decide), hB.2.2.1, if_pos (nI_le (Nat.le_refl n) (by omega))]
theorem cr_Lturn {X d : Int32} : f_L_turn X d = some (sp_w X d) := by
  unfold f_L_turn sp_w
  by_cases h1 : X + d < 0
  · rw [if_pos h1, if_neg (fun h => h.1 h1)]
  · by_cases h2 : X + d ≤ 30
    · rw [if_neg h1, if_pos h2, if_pos ⟨h1, cr_nlt.mpr h2⟩]
    · rw [if_neg h1, if_neg h2, if_neg (fun h => h2 (cr_nlt.mp h.2))]
theorem cr_Lscore {aq am ar n k p : Nat} {V : cr_Hp} {b : Nat → Int32} (hB : cr_B b n k) (hR : cr_R aq am ar V b n k) (hp : p < 3) : f_L_score aq am (nI p) V = some (sp_sc b (nI p) n) := by
  have hn := hB.1
  unfold f_L_score
  refine Eq.trans (cr_bd_for (fun i => (sp_sc b (nI p) i, nI i)) n (r := sp_sc b (nI p) n) ?_ ?_ (by omega) rfl) rfl
  · intro j hj
    have h12 : j < 12 := by omega
    show f_L_score_l5 aq am (nI p) (sp_sc b (nI p) j) (nI j) V = some (.inl (sp_sc b (nI p) (j + 1), nI (j + 1)))
    unfold f_L_score_l5
    rw [cr_H0, cr_T0, hR.q 0 (by decide), hB.2.2.1, if_neg (nI_ge hj (by omega)), cr_g54 h12, cr_g54 h12, cr_t54 h12, hR.m4 hj, cr_1]
    by_cases l : cr_lie b j
    · have ne : ¬ b (8 + 5 * j + 4) = nI p := by rw [show b (8 + 5 * j + 4) = -1006 from l]; exact fun e => cr_ne_m1006 (show p < 100 by omega) e.symm
      rw [if_neg ne, if_pos (cr_lie_l l)]
      simp only [sp_sc, if_pos l]
    · by_cases c1 : b (8 + 5 * j + 4) = nI p
      · rw [if_pos c1, cr_g52 h12, cr_t52 h12, hR.m2 hj, cr_lt_e]
        simp only [sp_sc, if_neg l, if_pos c1]
      · rw [if_neg c1, if_neg (cr_won_l hB hj l), cr_g53 h12, cr_t53 h12, hR.m3 hj]
        by_cases c2 : b (8 + 5 * j + 3) = nI p
        · rw [if_pos c2, cr_g52 h12, cr_t52 h12, hR.m2 hj, cr_lt_e]
          simp only [sp_sc, if_neg l, if_neg c1, if_pos c2]
        · rw [if_neg c2]
          simp only [sp_sc, if_neg l, if_neg c1, if_neg c2]
  · show f_L_score_l5 aq am (nI p) (sp_sc b (nI p) n) (nI n) V = _
    unfold f_L_score_l5
    rw [cr_H0, cr_T0, hR.q 0 (by decide), hB.2.2.1, if_pos (nI_le (Nat.le_refl n) (by omega))]
