/-! the class reads an item -/
def cr_oC (W : cr_Hp) (o : sp_O) : Prop := (∀ q', o = .inl q' → W 156 1 = nI q' ∧ W 156 2 = 1) ∧ ∀ g x y a p q', o = .inr (g, x, y, a, p, q') → W 156 1 = nI q' ∧ W 156 2 = 0 ∧ W 156 3 = (if g = true then 1 else 0) ∧ W 156 4 = nI x ∧ W 156 5 = nI y ∧ (g = true → W 156 6 = nI a) ∧ (g = false → W 156 7 = nI a ∧ W 156 8 = nI p)
theorem cr_oC_l {W : cr_Hp} {q : Nat} (h1 : W 156 1 = nI q) (h2 : W 156 2 = 1) : cr_oC W (.inl q) := by
  refine ⟨fun q' h => ?_, fun g x y a p q' h => ?_⟩
  · cases h; exact ⟨h1, h2⟩
  · cases h
theorem cr_Q_put {V0 V : cr_Hp} {q e t : Nat} {v : Int32} (hQ : cr_Q V0 V q e) (ht : 3 ≤ t) : cr_Q V0 (cr_pt V 156 t v) q e := by
  obtain ⟨q1, q2, q3, q4⟩ := hQ
  exact ⟨fun c hc => by rw [cr_pt_ne hc]; exact q1 c hc, by rw [cr_pv, if_neg (by omega)]; exact q2, by rw [cr_pv, if_neg (by omega)]; exact q3, q4⟩
theorem sp_e_b {L hi q : Nat} {T : Nat → Int32} : sp_e L T hi q ≤ q + 2 := by
  unfold sp_e
  by_cases h : sp_two L T hi q
  · rw [if_pos h]; omega
  · rw [if_neg h]; omega
theorem cr_item53 {V0 V : cr_Hp} {L q z : Nat} {T : Nat → Int32} (hT : cr_TX V0 L T) (hQ : cr_Q V0 V q 0) (hq : q ≤ L) (hz : (z = 114 ∧ V 156 3 = 1 ∧ sp_c L T q = 114) ∨ (z = 109 ∧ V 156 3 = 0 ∧ ¬ sp_c L T q = 114)) : ∃ W, f_X1_readItem_b53 (nI z) V = some W ∧ (∀ c, c ≠ 156 → W c = V0 c) ∧ cr_oC W (sp_it L T q) := by
  have hL := hT.1.1
  have bnd : ∀ {lo hi q : Nat}, ¬ sp_bad L T lo hi q → hi ≤ 30 → sp_e L T hi q ≤ L := fun h hh => (sp_e_le (sp_bad_n h (by omega))).2
  have cin : ∀ {q z : Nat}, sp_c L T q = z → z ≤ 126 → q < L := fun h hz => sp_c_in (T := T) (by omega)
  unfold f_X1_readItem_b53
  obtain ⟨V1, q1, e1, t1, Q1, E1, K1, a1, b1, c1⟩ := cr_take1 (z := z) hT hQ (Or.inl rfl) (by omega) (by omega)
  have hq1 : q1 ≤ 81 := by
    by_cases h : sp_c L T q = z
    · have := (b1 rfl h).1; omega
    · have := (c1 rfl h).1; omega
  obtain ⟨v2, V2, q2, e2, t2, Q2, E2, K2, a2, b2, c2⟩ := cr_num1 (lo := 0) (hi := 30) hT Q1 E1 (by omega) (by omega) hq1
  obtain ⟨V3, eV3⟩ : ∃ V3, V3 = cr_pt V2 156 4 v2 := ⟨_, rfl⟩
  have Q3 : cr_Q V0 V3 q2 e2 := by rw [eV3]; exact cr_Q_put Q2 (by omega)
  have hq2 : q2 ≤ 80 := by
    rcases E1 with h | h
    · by_cases hb : sp_bad L T 0 30 q1
      · have := (b2 h hb).1
        by_cases hc : sp_c L T q = z
        · have := (b1 rfl hc).1
          have := cin hc (by omega)
          omega
        · have := (c1 rfl hc).2; omega
      · have := (c2 h hb).1
        have := bnd hb (by omega)
        omega
    · have := (a2 h).1
      by_cases hc : sp_c L T q = z
      · have := (b1 rfl hc).2; omega
      · have := (c1 rfl hc).1; omega
  obtain ⟨V4, q4, e4, t4, Q4, E4, K4, a4, b4, c4⟩ := cr_take1 (z := 44) hT Q3 E2 (by omega) hq2
  have hq4 : q4 ≤ 81 := by
    rcases E2 with h | h
    · by_cases hc : sp_c L T q2 = 44
      · have := (b4 h hc).1; omega
      · have := (c4 h hc).1; omega
    · have := (a4 h).1; omega
  obtain ⟨v5, V5, q5, e5, t5, Q5, E5, K5, a5, b5, c5⟩ := cr_num1 (lo := 0) (hi := 30) hT Q4 E4 (by omega) (by omega) hq4
  have hq5 : q5 ≤ 80 := by
    rcases E4 with h | h
    · by_cases hb : sp_bad L T 0 30 q4
      · have := (b5 h hb).1
        rcases E2 with h2 | h2
        · by_cases hc : sp_c L T q2 = 44
          · have := (b4 h2 hc).1
            have := cin hc (by omega)
            omega
          · have := (c4 h2 hc).2; omega
        · have := (a4 h2).1; omega
      · have := (c5 h hb).1
        have := bnd hb (by omega)
        omega
    · have := (a5 h).1
      rcases E2 with h2 | h2
      · by_cases hc : sp_c L T q2 = 44
        · have := (b4 h2 hc).2; omega
        · have := (c4 h2 hc).1; omega
      · have := (a4 h2).1; omega
  obtain ⟨V6, eV6⟩ : ∃ V6, V6 = cr_pt V5 156 5 v5 := ⟨_, rfl⟩
  have Q6 : cr_Q V0 V6 q5 e5 := by rw [eV6]; exact cr_Q_put Q5 (by omega)
  have k3 : V6 156 3 = V 156 3 := by rw [eV6, cr_pv, if_neg (by omega), K5 3 (by omega), K4 3 (by omega), eV3, cr_pv, if_neg (by omega), K2 3 (by omega), K1 3 (by omega)]
  have k4 : V6 156 4 = v2 := by rw [eV6, cr_pv, if_neg (by omega), K5 4 (by omega), K4 4 (by omega), eV3, cr_pv, if_pos ⟨rfl, rfl⟩]
  have k5 : V6 156 5 = v5 := by rw [eV6, cr_pv, if_pos ⟨rfl, rfl⟩]
  rw [t1, cr_bd_some, show f_X1_takeNumber (0 : Int32) (30 : Int32) V1 = some (v2, V2) from t2, cr_b2_some, cr_lt_e, ← eV3, show f_X1_take (44 : Int32) V3 = some V4 from t4, cr_bd_some, show f_X1_takeNumber (0 : Int32) (30 : Int32) V4 = some (v5, V5) from t5, cr_b2_some, cr_lt_e, ← eV6, k3]
  rcases hz with ⟨rfl, z3, zc⟩ | ⟨rfl, z3, zc⟩
  · rw [z3, if_neg (by decide)]
    obtain ⟨V7, q7, e7, t7, Q7, E7, K7, a7, b7, c7⟩ := cr_take1 (z := 58) hT Q6 E5 (by omega) hq5
    have hq7 : q7 ≤ 81 := by
      rcases E5 with h | h
      · by_cases hc : sp_c L T q5 = 58
        · have := (b7 h hc).1; omega
        · have := (c7 h hc).1; omega
      · have := (a7 h).1; omega
    obtain ⟨v8, V8, q8, e8, t8, Q8, E8, K8, a8, b8, c8⟩ := cr_num1 (lo := 1) (hi := 15) hT Q7 E7 (by omega) (by omega) hq7
    have Q9 := cr_Q_put (v := v8) (t := 6) Q8 (by omega)
    rw [show f_X1_take (58 : Int32) V6 = some V7 from t7, cr_bd_some, show f_X1_takeNumber (1 : Int32) (15 : Int32) V7 = some (v8, V8) from t8, cr_b2_some, cr_lt_e]
    refine ⟨_, rfl, Q9.1, ?_⟩
    obtain ⟨rfl, rfl⟩ := b1 rfl zc
    unfold sp_it
    rw [if_neg (fun h => h (Or.inl zc))]
    by_cases h2 : sp_bad L T 0 30 (q + 1)
    · rw [if_pos h2]
      obtain ⟨rfl, rfl⟩ := b2 rfl h2
      obtain ⟨rfl, rfl⟩ := a4 rfl
      obtain ⟨rfl, rfl⟩ := a5 rfl
      obtain ⟨rfl, rfl⟩ := a7 rfl
      obtain ⟨rfl, rfl⟩ := a8 rfl
      exact cr_oC_l Q9.2.1 Q9.2.2.1
    · rw [if_neg h2]
      obtain ⟨rfl, rfl, rfl⟩ := c2 rfl h2
      unfold sp_iY
      by_cases h3 : sp_c L T (sp_e L T 30 (q + 1)) = 44
      · rw [if_neg (fun h => h h3)]
        obtain ⟨rfl, rfl⟩ := b4 rfl h3
        by_cases h4 : sp_bad L T 0 30 (sp_e L T 30 (q + 1) + 1)
        · rw [if_pos h4]
          obtain ⟨rfl, rfl⟩ := b5 rfl h4
          obtain ⟨rfl, rfl⟩ := a7 rfl
          obtain ⟨rfl, rfl⟩ := a8 rfl
          exact cr_oC_l Q9.2.1 Q9.2.2.1
        · rw [if_neg h4, if_pos zc]
          obtain ⟨rfl, rfl, rfl⟩ := c5 rfl h4
          unfold sp_iR
          by_cases h5 : sp_c L T (sp_e L T 30 (sp_e L T 30 (q + 1) + 1)) = 58
          · rw [if_neg (fun h => h h5)]
            obtain ⟨rfl, rfl⟩ := b7 rfl h5
            by_cases h6 : sp_bad L T 1 15 (sp_e L T 30 (sp_e L T 30 (q + 1) + 1) + 1)
            · rw [if_pos h6]
              obtain ⟨rfl, rfl⟩ := b8 rfl h6
              exact cr_oC_l Q9.2.1 Q9.2.2.1
            · rw [if_neg h6]
              obtain ⟨rfl, rfl, rfl⟩ := c8 rfl h6
              refine ⟨fun q' h => (by cases h), fun g x y a p q' h => ?_⟩
              cases h
              refine ⟨Q9.2.1, Q9.2.2.1, ?_, ?_, ?_, fun _ => by rw [cr_pv, if_pos ⟨rfl, rfl⟩], fun h => by cases h⟩
              · rw [cr_pv, if_neg (by omega), K8 3 (by omega), K7 3 (by omega), k3, z3, if_pos rfl]
              · rw [cr_pv, if_neg (by omega), K8 4 (by omega), K7 4 (by omega), k4]
              · rw [cr_pv, if_neg (by omega), K8 5 (by omega), K7 5 (by omega), k5]
          · rw [if_pos h5]
            obtain ⟨rfl, rfl⟩ := c7 rfl h5
            obtain ⟨rfl, rfl⟩ := a8 rfl
            exact cr_oC_l Q9.2.1 Q9.2.2.1
      · rw [if_pos h3]
        obtain ⟨rfl, rfl⟩ := c4 rfl h3
        obtain ⟨rfl, rfl⟩ := a5 rfl
        obtain ⟨rfl, rfl⟩ := a7 rfl
        obtain ⟨rfl, rfl⟩ := a8 rfl
        exact cr_oC_l Q9.2.1 Q9.2.2.1
  · rw [z3, if_pos (by decide)]
    obtain ⟨V7, q7, e7, t7, Q7, E7, K7, a7, b7, c7⟩ := cr_take1 (z := 115) hT Q6 E5 (by omega) hq5
    have hq7 : q7 ≤ 81 := by
      rcases E5 with h | h
      · by_cases hc : sp_c L T q5 = 115
        · have := (b7 h hc).1; omega
        · have := (c7 h hc).1; omega
      · have := (a7 h).1; omega
    obtain ⟨v8, V8, q8, e8, t8, Q8, E8, K8, a8, b8, c8⟩ := cr_num1 (lo := 1) (hi := 3) hT Q7 E7 (by omega) (by omega) hq7
    obtain ⟨V9, eV9⟩ : ∃ V9, V9 = cr_pt V8 156 7 v8 := ⟨_, rfl⟩
    have Q9 : cr_Q V0 V9 q8 e8 := by rw [eV9]; exact cr_Q_put Q8 (by omega)
    have hq8 : q8 ≤ 80 := by
      rcases E7 with h | h
      · by_cases hb : sp_bad L T 1 3 q7
        · have := (b8 h hb).1
          rcases E5 with h2 | h2
          · by_cases hc : sp_c L T q5 = 115
            · have := (b7 h2 hc).1
              have := cin hc (by omega)
              omega
            · have := (c7 h2 hc).2; omega
          · have := (a7 h2).1; omega
        · have := (c8 h hb).1
          have := bnd hb (by omega)
          omega
      · have := (a8 h).1
        rcases E5 with h2 | h2
        · by_cases hc : sp_c L T q5 = 115
          · have := (b7 h2 hc).2; omega
          · have := (c7 h2 hc).1; omega
        · have := (a7 h2).1; omega
    obtain ⟨V10, q10, e10, t10, Q10, E10, K10, a10, b10, c10⟩ := cr_take1 (z := 112) hT Q9 E8 (by omega) hq8
    have hq10 : q10 ≤ 81 := by
      rcases E8 with h | h
      · by_cases hc : sp_c L T q8 = 112
        · have := (b10 h hc).1; omega
        · have := (c10 h hc).1; omega
      · have := (a10 h).1; omega
    obtain ⟨v11, V11, q11, e11, t11, Q11, E11, K11, a11, b11, c11⟩ := cr_num1 (lo := 0) (hi := 2) hT Q10 E10 (by omega) (by omega) hq10
    have Q12 := cr_Q_put (v := v11) (t := 8) Q11 (by omega)
    rw [show f_X1_take (115 : Int32) V6 = some V7 from t7, cr_bd_some, show f_X1_takeNumber (1 : Int32) (3 : Int32) V7 = some (v8, V8) from t8, cr_b2_some, cr_lt_e, ← eV9, show f_X1_take (112 : Int32) V9 = some V10 from t10, cr_bd_some, show f_X1_takeNumber (0 : Int32) (2 : Int32) V10 = some (v11, V11) from t11, cr_b2_some, cr_lt_e]
    refine ⟨_, rfl, Q12.1, ?_⟩
    unfold sp_it
    by_cases h1 : sp_c L T q = 109
    · obtain ⟨rfl, rfl⟩ := b1 rfl h1
      rw [if_neg (fun h => h (Or.inr h1))]
      by_cases h2 : sp_bad L T 0 30 (q + 1)
      · rw [if_pos h2]
        obtain ⟨rfl, rfl⟩ := b2 rfl h2
        obtain ⟨rfl, rfl⟩ := a4 rfl
        obtain ⟨rfl, rfl⟩ := a5 rfl
        obtain ⟨rfl, rfl⟩ := a7 rfl
        obtain ⟨rfl, rfl⟩ := a8 rfl
        obtain ⟨rfl, rfl⟩ := a10 rfl
        obtain ⟨rfl, rfl⟩ := a11 rfl
        exact cr_oC_l Q12.2.1 Q12.2.2.1
      · rw [if_neg h2]
        obtain ⟨rfl, rfl, rfl⟩ := c2 rfl h2
        unfold sp_iY
        by_cases h3 : sp_c L T (sp_e L T 30 (q + 1)) = 44
        · rw [if_neg (fun h => h h3)]
          obtain ⟨rfl, rfl⟩ := b4 rfl h3
          by_cases h4 : sp_bad L T 0 30 (sp_e L T 30 (q + 1) + 1)
          · rw [if_pos h4]
            obtain ⟨rfl, rfl⟩ := b5 rfl h4
            obtain ⟨rfl, rfl⟩ := a7 rfl
            obtain ⟨rfl, rfl⟩ := a8 rfl
            obtain ⟨rfl, rfl⟩ := a10 rfl
            obtain ⟨rfl, rfl⟩ := a11 rfl
            exact cr_oC_l Q12.2.1 Q12.2.2.1
          · rw [if_neg h4, if_neg zc]
            obtain ⟨rfl, rfl, rfl⟩ := c5 rfl h4
            unfold sp_iM
            by_cases h5 : sp_c L T (sp_e L T 30 (sp_e L T 30 (q + 1) + 1)) = 115
            · rw [if_neg (fun h => h h5)]
              obtain ⟨rfl, rfl⟩ := b7 rfl h5
              by_cases h6 : sp_bad L T 1 3 (sp_e L T 30 (sp_e L T 30 (q + 1) + 1) + 1)
              · rw [if_pos h6]
                obtain ⟨rfl, rfl⟩ := b8 rfl h6
                obtain ⟨rfl, rfl⟩ := a10 rfl
                obtain ⟨rfl, rfl⟩ := a11 rfl
                exact cr_oC_l Q12.2.1 Q12.2.2.1
              · rw [if_neg h6]
                obtain ⟨rfl, rfl, rfl⟩ := c8 rfl h6
                unfold sp_iM2
                by_cases h7 : sp_c L T (sp_e L T 3 (sp_e L T 30 (sp_e L T 30 (q + 1) + 1) + 1)) = 112
                · rw [if_neg (fun h => h h7)]
                  obtain ⟨rfl, rfl⟩ := b10 rfl h7
                  by_cases h8 : sp_bad L T 0 2 (sp_e L T 3 (sp_e L T 30 (sp_e L T 30 (q + 1) + 1) + 1) + 1)
                  · rw [if_pos h8]
                    obtain ⟨rfl, rfl⟩ := b11 rfl h8
                    exact cr_oC_l Q12.2.1 Q12.2.2.1
                  · rw [if_neg h8]
                    obtain ⟨rfl, rfl, rfl⟩ := c11 rfl h8
                    refine ⟨fun q' h => (by cases h), fun g x y a p q' h => ?_⟩
                    cases h
                    refine ⟨Q12.2.1, Q12.2.2.1, ?_, ?_, ?_, fun h => (by cases h), fun _ => ⟨?_, by rw [cr_pv, if_pos ⟨rfl, rfl⟩]⟩⟩
                    · rw [cr_pv, if_neg (by omega), K11 3 (by omega), K10 3 (by omega), eV9, cr_pv, if_neg (by omega), K8 3 (by omega), K7 3 (by omega), k3, z3, if_neg (by decide)]
                    · rw [cr_pv, if_neg (by omega), K11 4 (by omega), K10 4 (by omega), eV9, cr_pv, if_neg (by omega), K8 4 (by omega), K7 4 (by omega), k4]
                    · rw [cr_pv, if_neg (by omega), K11 5 (by omega), K10 5 (by omega), eV9, cr_pv, if_neg (by omega), K8 5 (by omega), K7 5 (by omega), k5]
                    · rw [cr_pv, if_neg (by omega), K11 7 (by omega), K10 7 (by omega), eV9, cr_pv, if_pos ⟨rfl, rfl⟩]
                · rw [if_pos h7]
                  obtain ⟨rfl, rfl⟩ := c10 rfl h7
                  obtain ⟨rfl, rfl⟩ := a11 rfl
                  exact cr_oC_l Q12.2.1 Q12.2.2.1
            · rw [if_pos h5]
              obtain ⟨rfl, rfl⟩ := c7 rfl h5
              obtain ⟨rfl, rfl⟩ := a8 rfl
              obtain ⟨rfl, rfl⟩ := a10 rfl
              obtain ⟨rfl, rfl⟩ := a11 rfl
              exact cr_oC_l Q12.2.1 Q12.2.2.1
        · rw [if_pos h3]
          obtain ⟨rfl, rfl⟩ := c4 rfl h3
          obtain ⟨rfl, rfl⟩ := a5 rfl
          obtain ⟨rfl, rfl⟩ := a7 rfl
          obtain ⟨rfl, rfl⟩ := a8 rfl
          obtain ⟨rfl, rfl⟩ := a10 rfl
          obtain ⟨rfl, rfl⟩ := a11 rfl
          exact cr_oC_l Q12.2.1 Q12.2.2.1
    · rw [if_pos (fun h => h.elim zc h1)]
      obtain ⟨rfl, rfl⟩ := c1 rfl h1
      obtain ⟨rfl, rfl⟩ := a2 rfl
      obtain ⟨rfl, rfl⟩ := a4 rfl
      obtain ⟨rfl, rfl⟩ := a5 rfl
      obtain ⟨rfl, rfl⟩ := a7 rfl
      obtain ⟨rfl, rfl⟩ := a8 rfl
      obtain ⟨rfl, rfl⟩ := a10 rfl
      obtain ⟨rfl, rfl⟩ := a11 rfl
      exact cr_oC_l Q12.2.1 Q12.2.2.1
theorem cr_item13 {V0 V : cr_Hp} {L q : Nat} {T : Nat → Int32} (hT : cr_TX V0 L T) (hQ : cr_Q V0 V q 0) (hq : q ≤ L) : ∃ W, f_X1_readItem_b13 V = some W ∧ (∀ c, c ≠ 156 → W c = V0 c) ∧ cr_oC W (sp_it L T q) := by
  have hTV := cr_TX_fr hT hQ.1
  have hL := hT.1.1
  unfold f_X1_readItem_b13
  rw [hQ.2.1, cr_sign hTV hQ.2.2.2, cr_bd_some]
  by_cases hc : sp_c L T q = 114
  · rw [cr_L114, if_pos ((cr_sign_eq hT.1 (z := 114) (by omega)).mpr hc)]
    unfold f_X1_readItem_b35
    rw [cr_gd_e (Or.inr rfl), cr_lt_e, show cr_pt V 156 3 (1 : Int32) 156 3 = 1 by rw [cr_pv, if_pos ⟨rfl, rfl⟩], if_neg (by decide)]
    exact cr_item53 (z := 114) hT (cr_Q_put hQ (by omega)) hq (Or.inl ⟨rfl, by rw [cr_pv, if_pos ⟨rfl, rfl⟩], hc⟩)
  · rw [cr_L114, if_neg (fun h => hc ((cr_sign_eq hT.1 (z := 114) (by omega)).mp h))]
    unfold f_X1_readItem_b35
    rw [cr_gd_e (Or.inl rfl), cr_lt_e, show cr_pt V 156 3 (0 : Int32) 156 3 = 0 by rw [cr_pv, if_pos ⟨rfl, rfl⟩], if_pos (by decide)]
    exact cr_item53 (z := 109) hT (cr_Q_put hQ (by omega)) hq (Or.inr ⟨rfl, by rw [cr_pv, if_pos ⟨rfl, rfl⟩], hc⟩)
