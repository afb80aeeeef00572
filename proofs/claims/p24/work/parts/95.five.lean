/-! the law's acts by hand: putting, drawing, moving, passing, clearing -/
theorem cr_R_put {V V1 : cr_Hp} {b : Nat → Int32} {n k : Nat} {x y s o : Int32} (hR : cr_R 159 160 161 V b n k) (hn : n < 12) (hV : V1 = cr_pt (cr_pt (cr_pt (cr_pt (cr_pt (cr_pt V 160 (5 * n) x) 160 (5 * n + 1) y) 160 (5 * n + 2) s) 160 (5 * n + 3) o) 160 (5 * n + 4) (-1006)) 159 0 (nI (n + 1))) : cr_R 159 160 161 V1 (sp_put b n x y s o) (n + 1) k := by
  obtain ⟨p0, p1, p2, p3, p4⟩ := @sp_put_n b n x y s o
  refine ⟨fun t ht => ?_, fun j c hj hc => ?_, fun r c hr hc => ?_⟩
  · rw [hV, cr_pv]
    by_cases e : t = 0
    · rw [if_pos ⟨rfl, e⟩, e, sp_put_0]
    · rw [if_neg (fun h => e h.2), cr_pt_ne (by omega), cr_pt_ne (by omega), cr_pt_ne (by omega), cr_pt_ne (by omega), cr_pt_ne (by omega), sp_put_o e (by omega)]; exact hR.1 t ht
  · rw [hV, cr_pt_ne (by omega)]
    rcases Nat.lt_or_ge j n with h | h
    · rw [sp_put_o (by omega) (by omega)]
      repeat rw [cr_pv]
      repeat rw [if_neg (by omega)]
      exact hR.2.1 j c h hc
    · rw [show j = n by omega]
      have hc2 : c = 0 ∨ c = 1 ∨ c = 2 ∨ c = 3 ∨ c = 4 := by omega
      rcases hc2 with rfl | rfl | rfl | rfl | rfl
      · show _ = sp_put b n x y s o (8 + 5 * n)
        rw [p0]
        repeat rw [cr_pv]
        repeat rw [if_neg (by omega)]
        rw [if_pos (by omega)]
      · rw [p1]
        repeat rw [cr_pv]
        repeat rw [if_neg (by omega)]
        rw [if_pos (by omega)]
      · rw [p2]
        repeat rw [cr_pv]
        repeat rw [if_neg (by omega)]
        rw [if_pos (by omega)]
      · rw [p3]
        repeat rw [cr_pv]
        repeat rw [if_neg (by omega)]
        rw [if_pos (by omega)]
      · rw [p4]
        repeat rw [cr_pv]
        rw [if_pos (by omega)]
  · rw [hV, cr_pt_ne (by omega), cr_pt_ne (by omega), cr_pt_ne (by omega), cr_pt_ne (by omega), cr_pt_ne (by omega), cr_pt_ne (by omega), sp_put_o (by omega) (by omega)]; exact hR.2.2 r c hr hc
theorem cr_R_dr {V V1 : cr_Hp} {b : Nat → Int32} {n k : Nat} {x y d : Int32} (hR : cr_R 159 160 161 V b n k) (hn : n ≤ 12) (hk : k < 4) (hV : V1 = cr_pt (cr_pt (cr_pt (cr_pt V 161 (3 * k) x) 161 (3 * k + 1) y) 161 (3 * k + 2) d) 159 1 (nI (k + 1))) : cr_R 159 160 161 V1 (sp_dr b k x y d) n (k + 1) := by
  obtain ⟨p0, p1, p2⟩ := @sp_dr_n b k x y d
  refine ⟨fun t ht => ?_, fun j c hj hc => ?_, fun r c hr hc => ?_⟩
  · rw [hV, cr_pv]
    by_cases e : t = 1
    · rw [if_pos ⟨rfl, e⟩, e, sp_dr_1]
    · rw [if_neg (fun h => e h.2), cr_pt_ne (by omega), cr_pt_ne (by omega), cr_pt_ne (by omega), sp_dr_o e (by omega)]; exact hR.1 t ht
  · rw [hV, cr_pt_ne (by omega), cr_pt_ne (by omega), cr_pt_ne (by omega), cr_pt_ne (by omega), sp_dr_o (by omega) (by omega)]; exact hR.2.1 j c hj hc
  · rw [hV, cr_pt_ne (by omega)]
    rcases Nat.lt_or_ge r k with h | h
    · rw [sp_dr_o (by omega) (by omega)]
      repeat rw [cr_pv]
      repeat rw [if_neg (by omega)]
      exact hR.2.2 r c h hc
    · rw [show r = k by omega]
      have hc2 : c = 0 ∨ c = 1 ∨ c = 2 := by omega
      rcases hc2 with rfl | rfl | rfl
      · show _ = sp_dr b k x y d (68 + 3 * k)
        rw [p0]
        repeat rw [cr_pv]
        repeat rw [if_neg (by omega)]
        rw [if_pos (by omega)]
      · rw [p1]
        repeat rw [cr_pv]
        repeat rw [if_neg (by omega)]
        rw [if_pos (by omega)]
      · rw [p2]
        repeat rw [cr_pv]
        rw [if_pos (by omega)]
section CRF
variable {nL t j n k G X Y : Nat} {xs : Nat → Int32} {V : cr_Hp} {b : Nat → Int32} {r44 r56 : Int32}
theorem cr_q0v (h : cr_LI V b n k G) : V 159 (0 : Int32).toNatClampNeg = nI n := by rw [cr_T0, h.2.1.q 0 (by decide)]; exact h.1.B.2.2.1
theorem cr_q1v (h : cr_LI V b n k G) : V 159 (1 : Int32).toNatClampNeg = nI k := by rw [cr_T1, h.2.1.q 1 (by decide)]; exact h.1.B.2.2.2.1
theorem cr_Lput {S O : Nat} {z : Int32} (h : cr_LI V b n k (400 * t)) (ht : t < 40) (hj : j < 12) (hjn : 0 < n → j < n) (hj0 : n = 0 → j = 0) (hX : X ≤ 30) (hY : Y ≤ 30) (hS : S < 3) (hO : O < 3) (hz : (z = 0 ∧ ∃ i, i < n ∧ cr_on_pt b i (nI X) (nI Y)) ∨ (z = 1 ∧ ∀ i, i < n → ¬ cr_on_pt b i (nI X) (nI Y))) : cr_LP t (f_L_law_b256 nL xs (nI t) r56 (nI X) (nI Y) (nI j) (nI S) (nI O) z V) := by
  have q0 := cr_q0v h
  have h0 := h
  obtain ⟨hI, hR, g, hg, eg⟩ := h
  have hB := hI.B
  have hn := hB.1
  have e1 : (1 : Int32) + nI S = nI (S + 1) := by rw [cr_L1, nI_add, Nat.add_comm]
  obtain ⟨p1, p2⟩ := cr_c_put (S := S + 1) (O := O) hI hX hY (by omega) (by omega) hO
  have stay : cr_LP t (some (.inl (nI t + (1 : Int32), V))) := cr_LP.stay (h0.le (by omega))
  unfold f_L_law_b256
  rw [e1]
  rcases hz with ⟨rfl, ho⟩ | ⟨rfl, ho⟩
  · rw [p1 ho, cr_b2_some, cr_gd_e (rfl : V 999 0 = V 999 0), if_pos rfl]
    unfold f_L_law_b298
    rw [if_pos rfl, if_pos rfl]
    exact stay
  · obtain ⟨p3, p4⟩ := p2 ho
    by_cases h12 : n = 12
    · rw [p3 h12, cr_b2_some, cr_gd_e (rfl : V 999 0 = V 999 0), if_neg (by decide), cr_H0, q0, if_pos (show nI n = (12 : Int32) by rw [h12]; rfl)]
      unfold f_L_law_b298
      rw [if_pos rfl, if_neg (by decide), cr_H0, q0, if_pos (show nI n = (12 : Int32) by rw [h12]; rfl)]
      exact stay
    · have hn12 : n < 12 := by omega
      obtain ⟨W, e, hIW, hf⟩ := p4 hn12
      have n12 : ¬ nI n = (12 : Int32) := fun e => h12 ((nI_eq (by omega) (by decide)).mp (e.trans cr_L12))
      have f0 : ∀ Z : cr_Hp, Z 159 = V 159 → Z 159 (0 : Int32).toNatClampNeg = nI n := fun Z hZ => by rw [hZ]; exact q0
      rw [e, cr_b2_some, cr_gd_e (show W 999 0 = V 999 0 by rw [hf 999 (by omega)]), if_neg (by decide), cr_H0, f0 W (hf _ (by omega)), if_neg n12, cr_H0]
      unfold f_L_law_b298
      rw [if_pos rfl, if_neg (by decide), cr_H0, f0 W (hf _ (by omega)), if_neg n12, cr_H0, cr_g50 hn12, cr_lt_c (show cr_pt W 160 ((5 : Int32) * nI n).toNatClampNeg (nI X) = cr_pt W 160 (5 * n) (nI X) by rw [cr_t50 hn12])]
      rw [cr_H0, f0 (cr_pt W 160 (5 * n) (nI X)) (by rw [cr_pt_ne (by omega)]; exact hf _ (by omega)), cr_g51 hn12, cr_lt_c (show cr_pt (cr_pt W 160 (5 * n) (nI X)) 160 (((5 : Int32) * nI n) + (1 : Int32)).toNatClampNeg (nI Y) = cr_pt (cr_pt W 160 (5 * n) (nI X)) 160 (5 * n + 1) (nI Y) by rw [cr_t51 hn12])]
      obtain ⟨W2, eW2⟩ : ∃ W2, W2 = cr_pt (cr_pt W 160 (5 * n) (nI X)) 160 (5 * n + 1) (nI Y) := ⟨_, rfl⟩
      rw [← eW2, cr_H0, f0 W2 (by rw [eW2, cr_pt_ne (by omega), cr_pt_ne (by omega)]; exact hf _ (by omega)), cr_g52 hn12, e1, cr_lt_c (show cr_pt W2 160 (((5 : Int32) * nI n) + (2 : Int32)).toNatClampNeg (nI (S + 1)) = cr_pt W2 160 (5 * n + 2) (nI (S + 1)) by rw [cr_t52 hn12])]
      obtain ⟨W3, eW3⟩ : ∃ W3, W3 = cr_pt W2 160 (5 * n + 2) (nI (S + 1)) := ⟨_, rfl⟩
      rw [← eW3, cr_H0, f0 W3 (by rw [eW3, eW2, cr_pt_ne (by omega), cr_pt_ne (by omega), cr_pt_ne (by omega)]; exact hf _ (by omega)), cr_g53 hn12, cr_lt_c (show cr_pt W3 160 (((5 : Int32) * nI n) + (3 : Int32)).toNatClampNeg (nI O) = cr_pt W3 160 (5 * n + 3) (nI O) by rw [cr_t53 hn12])]
      obtain ⟨W4, eW4⟩ : ∃ W4, W4 = cr_pt W3 160 (5 * n + 3) (nI O) := ⟨_, rfl⟩
      rw [← eW4, cr_H0, f0 W4 (by rw [eW4, eW3, eW2, cr_pt_ne (by omega), cr_pt_ne (by omega), cr_pt_ne (by omega), cr_pt_ne (by omega)]; exact hf _ (by omega)), cr_g54 hn12, cr_lt_c (show cr_pt W4 160 (((5 : Int32) * nI n) + (4 : Int32)).toNatClampNeg (-1006 : Int32) = cr_pt W4 160 (5 * n + 4) (-1006) by rw [cr_t54 hn12])]
      obtain ⟨W5, eW5⟩ : ∃ W5, W5 = cr_pt W4 160 (5 * n + 4) (-1006) := ⟨_, rfl⟩
      have f5 : ∀ c, c ≠ 160 → W5 c = W c := fun c hc => by rw [eW5, eW4, eW3, eW2, cr_pt_ne hc, cr_pt_ne hc, cr_pt_ne hc, cr_pt_ne hc, cr_pt_ne hc]
      rw [← eW5, cr_H0, cr_H0, cr_lt_c (show cr_pt W5 159 (0 : Int32).toNatClampNeg (W5 159 (0 : Int32).toNatClampNeg + (1 : Int32)) = cr_pt W5 159 0 (nI (n + 1)) by rw [f0 W5 (by rw [f5 _ (by omega)]; exact hf _ (by omega)), cr_1, cr_T0])]
      have hRW : cr_R 159 160 161 W b n k := hR.fr (hf _ (by omega)) (hf _ (by omega)) (hf _ (by omega))
      have hR6 := cr_R_put (V1 := cr_pt W5 159 0 (nI (n + 1))) (x := nI X) (y := nI Y) (s := nI (S + 1)) (o := nI O) hRW hn12 (by rw [eW5, eW4, eW3, eW2])
      refine cr_Lend (b := sp_put b n (nI X) (nI Y) (nI (S + 1)) (nI O)) (n := n + 1) (k := k) ⟨hIW.fr (fun c hc => by rw [cr_pt_ne (by omega), f5 _ (by omega)]), hR6, g, by omega, by rw [cr_pt_ne (by omega), f5 _ (by omega), hf 999 (by omega)]; exact eg⟩ ht hj (fun _ => ?_)
      rcases Nat.eq_zero_or_pos n with h | h
      · rw [hj0 h]; omega
      · have := hjn h; omega
theorem cr_Ldraw {D : Nat} (h : cr_LI V b n k (400 * t)) (ht : t < 40) (hj : j < 12) (hjn : 0 < n → j < n) (hX : X ≤ 30) (hY : Y ≤ 30) (hD : 1 ≤ D ∧ D ≤ 15) : cr_LP t (f_L_law_b412 nL xs (nI t) r56 (nI X) (nI Y) (nI j) (nI D) V) := by
  have q1 := cr_q1v h
  have h0 := h
  obtain ⟨hI, hR, g, hg, eg⟩ := h
  have hB := hI.B
  have hn := hB.1
  have hk := hB.2.1
  obtain ⟨d, hd, ed⟩ := cr_Llow (r56 >>> ((8 : Int32) &&& 31)) (M := D) (by omega) (by omega)
  have e1 : (1 : Int32) + nI d = nI (d + 1) := by rw [cr_L1, nI_add, Nat.add_comm]
  obtain ⟨p1, p2⟩ := cr_c_draw (D := d + 1) hI hX hY (by omega) (by omega)
  have stay : cr_LP t (some (.inl (nI t + (1 : Int32), V))) := cr_LP.stay (h0.le (by omega))
  unfold f_L_law_b412
  rw [ed, cr_bd_some, e1]
  by_cases h4 : k = 4
  · rw [p1 h4, cr_b2_some, cr_gd_e (rfl : V 999 0 = V 999 0), cr_H1, q1, if_pos (show nI k = (4 : Int32) by rw [h4]; rfl)]
    unfold f_L_law_b444
    rw [if_pos rfl, cr_H1, q1, if_pos (show nI k = (4 : Int32) by rw [h4]; rfl)]
    exact stay
  · have hk4 : k < 4 := by omega
    obtain ⟨W, e, hIW, hf⟩ := p2 hk4
    have n4 : ¬ nI k = (4 : Int32) := fun e => h4 ((nI_eq (by omega) (by decide)).mp (e.trans cr_L4))
    have f0 : ∀ Z : cr_Hp, Z 159 = V 159 → Z 159 (1 : Int32).toNatClampNeg = nI k := fun Z hZ => by rw [hZ]; exact q1
    rw [e, cr_b2_some, cr_gd_e (show W 999 0 = V 999 0 by rw [hf 999 (by omega)]), cr_H1, f0 W (hf _ (by omega)), if_neg n4, cr_H1]
    unfold f_L_law_b444
    rw [if_pos rfl, cr_H1, f0 W (hf _ (by omega)), if_neg n4, cr_H1, cr_g30 hk4, cr_lt_c (show cr_pt W 161 ((3 : Int32) * nI k).toNatClampNeg (nI X) = cr_pt W 161 (3 * k) (nI X) by rw [cr_t30 hk4])]
    obtain ⟨W1, eW1⟩ : ∃ W1, W1 = cr_pt W 161 (3 * k) (nI X) := ⟨_, rfl⟩
    rw [← eW1, cr_H1, f0 W1 (by rw [eW1, cr_pt_ne (by omega)]; exact hf _ (by omega)), cr_g31 hk4, cr_lt_c (show cr_pt W1 161 (((3 : Int32) * nI k) + (1 : Int32)).toNatClampNeg (nI Y) = cr_pt W1 161 (3 * k + 1) (nI Y) by rw [cr_t31 hk4])]
    obtain ⟨W2, eW2⟩ : ∃ W2, W2 = cr_pt W1 161 (3 * k + 1) (nI Y) := ⟨_, rfl⟩
    rw [← eW2, cr_H1, f0 W2 (by rw [eW2, eW1, cr_pt_ne (by omega), cr_pt_ne (by omega)]; exact hf _ (by omega)), cr_g32 hk4, e1, cr_lt_c (show cr_pt W2 161 (((3 : Int32) * nI k) + (2 : Int32)).toNatClampNeg (nI (d + 1)) = cr_pt W2 161 (3 * k + 2) (nI (d + 1)) by rw [cr_t32 hk4])]
    obtain ⟨W3, eW3⟩ : ∃ W3, W3 = cr_pt W2 161 (3 * k + 2) (nI (d + 1)) := ⟨_, rfl⟩
    have f3 : ∀ c, c ≠ 161 → W3 c = W c := fun c hc => by rw [eW3, eW2, eW1, cr_pt_ne hc, cr_pt_ne hc, cr_pt_ne hc]
    rw [← eW3, cr_H1, cr_H1, cr_lt_c (show cr_pt W3 159 (1 : Int32).toNatClampNeg (W3 159 (1 : Int32).toNatClampNeg + (1 : Int32)) = cr_pt W3 159 1 (nI (k + 1)) by rw [f0 W3 (by rw [f3 _ (by omega)]; exact hf _ (by omega)), cr_1, cr_T1])]
    have hRW : cr_R 159 160 161 W b n k := hR.fr (hf _ (by omega)) (hf _ (by omega)) (hf _ (by omega))
    have hR6 := cr_R_dr (V1 := cr_pt W3 159 1 (nI (k + 1))) (x := nI X) (y := nI Y) (d := nI (d + 1)) hRW hn hk4 (by rw [eW3, eW2, eW1])
    exact cr_Lend (b := sp_dr b k (nI X) (nI Y) (nI (d + 1))) (n := n) (k := k + 1) ⟨hIW.fr (fun c hc => by rw [cr_pt_ne (by omega), f3 _ (by omega)]), hR6, g, by omega, by rw [cr_pt_ne (by omega), f3 _ (by omega), hf 999 (by omega)]; exact eg⟩ ht hj hjn
/-- how many rings a point lies in -/
def sp_mn (b : Nat → Int32) (x y : Int32) : Nat → Int32
  | 0 => 0
  | r + 1 => if cr_out b r x y then sp_mn b x y r else sp_mn b x y r + 1
theorem cr_onb : ∀ r : Fin 4, ∀ s : Fin 8, s.val < 2 ^ r.val → sp_on (nI s.val ||| ((1 : Int32) <<< (nI r.val &&& 31))) 4 = sp_on (nI s.val) 4 + 1 := by decide +kernel
theorem sp_mn_on {b : Nat → Int32} {x y : Int32} : ∀ k : Nat, k ≤ 4 → sp_mn b x y k = sp_on (sp_rs b x y k) 4
  | 0, _ => by
    have h : (0 : Int32) = sp_on (0 : Int32) 4 := by decide
    exact h
  | r + 1, hr => by
    have ih := sp_mn_on (b := b) (x := x) (y := y) r (by omega)
    obtain ⟨s, s1, s2⟩ := sp_rs_lt (b := b) (x := x) (y := y) r (by omega)
    have p8 : 2 ^ r ≤ 8 := by
      have h3 : r = 0 ∨ r = 1 ∨ r = 2 ∨ r = 3 := by omega
      rcases h3 with rfl | rfl | rfl | rfl <;> decide
    by_cases h1 : cr_out b r x y
    · simp only [sp_mn, sp_rs, if_pos h1]; exact ih
    · simp only [sp_mn, sp_rs, if_neg h1]
      rw [ih, s2]
      exact (cr_onb ⟨r, by omega⟩ ⟨s, by omega⟩ s1).symm
theorem cr_Lmany {z : Int32} (hB : cr_B b n k) (hR : cr_R 159 160 161 V b n k) : cr_it (fun (q : Int32 × Int32) => f_L_law_l539 nL xs (nI t) r56 (nI X) (nI Y) (nI j) z q.1 q.2 V) cr_FU ((0 : Int32), (0 : Int32)) = some (sp_mn b (nI X) (nI Y) k) := by
  have hk := hB.2.1
  refine cr_it_for (fun i => (sp_mn b (nI X) (nI Y) i, nI i)) k rfl ?_ ?_ (by omega)
  · intro i hi
    show f_L_law_l539 nL xs (nI t) r56 (nI X) (nI Y) (nI j) z (sp_mn b (nI X) (nI Y) i) (nI i) V = some (.inl (sp_mn b (nI X) (nI Y) (i + 1), nI (i + 1)))
    unfold f_L_law_l539
    rw [cr_H1, cr_T1, hR.q 1 (by decide), hB.2.2.2.1, if_neg (nI_ge hi (by omega)), cr_Lin hk hR hi, cr_bd_some, cr_1]
    by_cases h1 : cr_out b i (nI X) (nI Y)
    · rw [if_pos h1, if_pos rfl, Int32.add_zero]
      simp only [sp_mn, if_pos h1]
    · rw [if_neg h1, if_neg (by decide)]
      simp only [sp_mn, if_neg h1]
  · show f_L_law_l539 nL xs (nI t) r56 (nI X) (nI Y) (nI j) z (sp_mn b (nI X) (nI Y) k) (nI k) V = _
    unfold f_L_law_l539
    rw [cr_H1, cr_T1, hR.q 1 (by decide), hB.2.2.2.1, if_pos (nI_le (Nat.le_refl k) (by omega))]
theorem cr_upd_id {f : Nat → Int32} {t : Nat} {v : Int32} (h : f t = v) : upd f t v = f := by
  funext i
  rw [cr_uv]
  by_cases e : i = t
  · rw [if_pos e, e, h]
  · rw [if_neg e]
theorem cr_pt_id {V : cr_Hp} {a t : Nat} {v : Int32} (h : V a t = v) : cr_pt V a t v = V := by
  funext c
  by_cases e : c = a
  · rw [e, cr_pt_eq, cr_upd_id h]
  · rw [cr_pt_ne e]
theorem cr_Lmove {z : Int32} (h : cr_LI V b n k (400 * t)) (ht : t < 40) (hj : j < 12) (hjn : 0 < n → j < n) (hj0 : n = 0 → j = 0) (hX : X ≤ 30) (hY : Y ≤ 30) (hz : (z = 0 ∧ (0 < n → ¬ cr_lie b j ∨ ∃ i, i < n ∧ cr_on_pt b i (nI X) (nI Y))) ∨ (z = 1 ∧ 0 < n ∧ cr_lie b j ∧ ∀ i, i < n → ¬ cr_on_pt b i (nI X) (nI Y))) : cr_LP t (f_L_law_b531 nL xs (nI t) r56 (nI X) (nI Y) (nI j) z V) := by
  have q0 := cr_q0v h
  have h0 := h
  obtain ⟨hI, hR, g, hg, eg⟩ := h
  have hB := hI.B
  have hn := hB.1
  have hk := hB.2.1
  have back : ∀ r : Int32, cr_LP t (if r = r then (cr_gd (cr_ix ((5 : Int32) * nI j) 60) (f_L_law_b638 nL xs (nI t) r56 (nI Y) (nI j) (0 : Int32) (V 160 ((5 : Int32) * nI j).toNatClampNeg) V)) else none) := by
    intro r
    unfold f_L_law_b638
    rw [if_pos rfl, cr_g50 hj, cr_g50 hj, cr_lt_c (cr_pt_id rfl), if_pos rfl, cr_g51 hj]
    unfold f_L_law_b664
    rw [cr_g51 hj, cr_lt_c (cr_pt_id rfl)]
    exact cr_Lend (h0.le (by omega)) ht hj hjn
  unfold f_L_law_b531
  rw [cr_Lmany hB hR, cr_bd_some]
  rcases Nat.eq_zero_or_pos n with hz0 | hn0
  · rcases hz with ⟨rfl, -⟩ | ⟨-, h1, -⟩
    · rw [cr_c_move0 hI (show n ≤ j by omega) (by omega), cr_b2_some, cr_gd_e (rfl : V 999 0 = V 999 0), cr_H0, q0, if_pos (show nI n = 0 by rw [hz0]; rfl)]
      unfold f_L_law_b612
      rw [if_pos (show (0 : Int32) = 0 from rfl)]
      exact back _
    · omega
  · have nz : ¬ nI n = 0 := nI_ne0 hn0 (by omega)
    obtain ⟨m1, m2⟩ := cr_c_move hI (hjn hn0) hX hY
    rcases hz with ⟨rfl, h1⟩ | ⟨rfl, -, l, ho⟩
    · rw [m1 (h1 hn0), cr_b2_some, cr_gd_e (rfl : V 999 0 = V 999 0), cr_H0, q0, if_neg nz, if_pos rfl]
      unfold f_L_law_b612
      rw [if_pos (show (0 : Int32) = 0 from rfl)]
      exact back _
    · obtain ⟨W, e, hIW, hf⟩ := m2 l ho
      rw [e, cr_b2_some, cr_gd_e (show W 999 0 = V 999 0 by rw [hf 999 (by omega)]), cr_H0, show W 159 (0 : Int32).toNatClampNeg = nI n by rw [hf 159 (by omega)]; exact q0, if_neg nz, if_neg (by decide), ← sp_mn_on k hk]
      unfold f_L_law_b612
      rw [if_pos rfl, if_neg (by decide)]
      unfold f_L_law_b638
      rw [cr_g50 hj, cr_lt_c (show cr_pt W 160 ((5 : Int32) * nI j).toNatClampNeg (nI X) = cr_pt W 160 (5 * j + 0) (nI X) by rw [cr_t50 hj]; rfl), if_neg (by decide)]
      unfold f_L_law_b664
      rw [cr_g51 hj, cr_lt_c (show cr_pt (cr_pt W 160 (5 * j + 0) (nI X)) 160 (((5 : Int32) * nI j) + (1 : Int32)).toNatClampNeg (nI Y) = cr_pt (cr_pt W 160 (5 * j + 0) (nI X)) 160 (5 * j + 1) (nI Y) by rw [cr_t51 hj])]
      have hRW : cr_R 159 160 161 W b n k := hR.fr (hf _ (by omega)) (hf _ (by omega)) (hf _ (by omega))
      have R2 := (hRW.um (j := j) (c := 0) (v := nI X) (by omega) (by omega) hj (by decide)).um (j := j) (c := 1) (v := nI Y) (by omega) (by omega) hj (by decide)
      exact cr_Lend (b := sp_mv b j (nI X) (nI Y)) (n := n) (k := k) ⟨hIW.fr (fun c hc => by rw [cr_pt_ne (by omega), cr_pt_ne (by omega)]), R2, g, by omega, by rw [cr_pt_ne (by omega), cr_pt_ne (by omega), hf 999 (by omega)]; exact eg⟩ ht hj hjn
theorem cr_R_nx {V1 : cr_Hp} (hR : cr_R 159 160 161 V b n k) (hV : V1 = cr_pt V 159 2 ((b 2 + (1 : Int32)) - (b 2 + (1 : Int32)) / (3 : Int32) * (3 : Int32))) : cr_R 159 160 161 V1 (sp_nx b) n k := by
  rw [hV]
  exact hR.uq (t := 2) (by omega) (by omega) (by decide)
theorem cr_Lpass1 (h : cr_LI V b n k G) : ∃ W, cr_lt (cr_pt V 159 (2 : Int32).toNatClampNeg ((V 159 (2 : Int32).toNatClampNeg + (1 : Int32)) - (V 159 (2 : Int32).toNatClampNeg + (1 : Int32)) / (3 : Int32) * (3 : Int32))) (fun (V683 : cr_Hp) => f_X7_pass V683) = some (sp_nx b 2, W) ∧ cr_LI W (sp_nx b) n k G ∧ W 159 (2 : Int32).toNatClampNeg = sp_nx b 2 ∧ W 999 0 = cr_pt V 159 (2 : Int32).toNatClampNeg ((V 159 (2 : Int32).toNatClampNeg + (1 : Int32)) - (V 159 (2 : Int32).toNatClampNeg + (1 : Int32)) / (3 : Int32) * (3 : Int32)) 999 0 := by
  obtain ⟨hI, hR, g, hg, eg⟩ := h
  obtain ⟨V1, eV1⟩ : ∃ V1, V1 = cr_pt V 159 (2 : Int32).toNatClampNeg ((V 159 (2 : Int32).toNatClampNeg + (1 : Int32)) - (V 159 (2 : Int32).toNatClampNeg + (1 : Int32)) / (3 : Int32) * (3 : Int32)) := ⟨_, rfl⟩
  have hR1 : cr_R 159 160 161 V1 (sp_nx b) n k := cr_R_nx hR (by rw [eV1, cr_T2, hR.q 2 (by decide)])
  have hI1 : cr_IX V1 b n k := hI.fr (fun c hc => by rw [eV1, cr_pt_ne (by omega)])
  obtain ⟨W, e, hIW, hf⟩ := cr_c_pass hI1
  have hRW : cr_R 159 160 161 W (sp_nx b) n k := hR1.fr (hf _ (by omega)) (hf _ (by omega)) (hf _ (by omega))
  refine ⟨W, by rw [← eV1, cr_lt_e]; exact e, ⟨hIW, hRW, g, hg, by rw [hf 999 (by omega), eV1, cr_pt_ne (by omega)]; exact eg⟩, by rw [cr_T2, hRW.q 2 (by decide)], by rw [← eV1, hf 999 (by omega)]⟩
theorem cr_Lzero {V0 : cr_Hp} : ∃ W, cr_it (fun (q : Int32 × cr_Hp) => f_L_law_l733 nL xs (nI t) r56 (nI j) q.1 q.2) cr_FU ((0 : Int32), V0) = some W ∧ (∀ i, i < 8 → W 159 i = 0) ∧ ∀ c, c ≠ 159 → W c = V0 c := by
  refine cr_invH (F := fun x W => f_L_law_l733 nL xs (nI t) r56 (nI j) x W) (V := V0) (fun i W => (∀ c, c < i → W 159 c = 0) ∧ ∀ c, c ≠ 159 → W c = V0 c) (fun W => (∀ i, i < 8 → W 159 i = 0) ∧ ∀ c, c ≠ 159 → W c = V0 c) 8 ⟨fun c hc => absurd hc (by omega), fun _ _ => rfl⟩ (fun i hi W ⟨w1, w2⟩ => ?_) (fun W hW => ⟨W, ?_, hW⟩) (by decide)
  · unfold f_L_law_l733
    rw [cr_L8, if_neg (nI_ge hi (by decide)), cr_gz hi (by decide), nI_clamp (by omega), cr_1, cr_lt_e]
    refine ⟨_, rfl, fun c hc => ?_, fun c hc => by rw [cr_pt_ne hc]; exact w2 c hc⟩
    rw [cr_pv]
    by_cases e : c = i
    · rw [if_pos ⟨rfl, e⟩]
    · rw [if_neg (fun h => e h.2)]; exact w1 c (by omega)
  · unfold f_L_law_l733
    rw [cr_L8, if_pos (nI_le (Nat.le_refl 8) (by decide))]
end CRF
