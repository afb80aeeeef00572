/-! the model reads an item -/
def cr_MX (V : cr_Hp) (L : Nat) (T : Nat → Int32) : Prop := cr_Tx L T ∧ V 159 5 = nI L ∧ ∀ i, i < L → V 163 i = T i
def cr_N (V0 V : cr_Hp) (q : Nat) : Prop := (∀ c, c ≠ 159 → V c = V0 c) ∧ (∀ t, t < 15 → V 159 t = V0 159 t) ∧ V 159 15 = nI q ∧ q ≤ 90
theorem cr_N_X {V0 V : cr_Hp} {L q : Nat} {T : Nat → Int32} (hT : cr_MX V0 L T) (hN : cr_N V0 V q) : cr_MX V L T := ⟨hT.1, by rw [hN.2.1 5 (by omega)]; exact hT.2.1, fun i hi => by rw [hN.1 163 (by omega)]; exact hT.2.2 i hi⟩
theorem cr_N_put {V0 V : cr_Hp} {q t : Nat} {v : Int32} (hN : cr_N V0 V q) (ht : 16 ≤ t) : cr_N V0 (cr_pt V 159 t v) q := by
  obtain ⟨n1, n2, n3, n4⟩ := hN
  exact ⟨fun c hc => by rw [cr_pt_ne hc]; exact n1 c hc, fun s hs => by rw [cr_pv, if_neg (by omega)]; exact n2 s hs, by rw [cr_pv, if_neg (by omega)]; exact n3, n4⟩
theorem cr_char {V : cr_Hp} {L q : Nat} {T : Nat → Int32} (hT : cr_MX V L T) (hq : q ≤ 90) : f_X8_character (nI q) V = some (if q < L then nI (sp_c L T q) else -1) := by
  have hL := hT.1.1
  unfold f_X8_character
  rw [hT.2.1]
  by_cases h : q < L
  · rw [if_neg (nI_ge h (by omega)), cr_gd_e (cr_ix_nI (by omega) (by decide)), nI_clamp (by omega), if_pos h, hT.2.2 q h]
    exact congrArg some (sp_c_s hT.1 h).1
  · rw [if_pos (nI_le (by omega) (by omega)), if_neg h]
theorem cr_next1 {V0 V : cr_Hp} {L q z : Nat} {T : Nat → Int32} (hT : cr_MX V0 L T) (hN : cr_N V0 V q) (hz : z ≤ 126) (hq : q ≤ 81) : (sp_c L T q = z → ∃ W, f_X8_isNext (nI z) V = some (1, W) ∧ cr_N V0 W (q + 1) ∧ ∀ t, 16 ≤ t → W 159 t = V 159 t) ∧ (¬ sp_c L T q = z → ∃ W, f_X8_isNext (nI z) V = some (0, W) ∧ cr_N V0 W q ∧ ∀ t, 16 ≤ t → W 159 t = V 159 t) := by
  have hX := cr_N_X hT hN
  obtain ⟨n1, n2, n3, n4⟩ := hN
  unfold f_X8_isNext
  rw [n3, cr_char hX n4, cr_bd_some]
  constructor
  · intro hc
    rw [if_pos ((cr_sign_eq hT.1 hz).mpr hc)]
    unfold f_X8_isNext_b17
    rw [if_neg (by decide), cr_lt_e, cr_gd_e (Or.inr rfl), n3, cr_1]
    exact ⟨_, rfl, ⟨fun c hc => by rw [cr_pt_ne hc]; exact n1 c hc, fun s hs => by rw [cr_pv, if_neg (by omega)]; exact n2 s hs, by rw [cr_pv, if_pos ⟨rfl, rfl⟩], by omega⟩, fun t ht => by rw [cr_pv, if_neg (by omega)]⟩
  · intro hc
    rw [if_neg (fun h => hc ((cr_sign_eq hT.1 hz).mp h))]
    unfold f_X8_isNext_b17
    rw [if_pos rfl, cr_lt_e, cr_gd_e (Or.inl rfl), n3, Int32.add_zero]
    exact ⟨_, rfl, ⟨fun c hc => by rw [cr_pt_ne hc]; exact n1 c hc, fun s hs => by rw [cr_pv, if_neg (by omega)]; exact n2 s hs, by rw [cr_pv, if_pos ⟨rfl, rfl⟩], n4⟩, fun t ht => by rw [cr_pv, if_neg (by omega)]⟩
theorem cr_wd {L q lo hi : Nat} {T : Nat → Int32} {a b : Int32} (hT : cr_Tx L T) (ha : a = nI (48 + lo)) (hb : b = nI (48 + hi)) (hlo : lo ≤ 9) (hhi : hi ≤ 9) : f_X8_within (if q < L then nI (sp_c L T q) else -1) a b = some (if sp_bad L T lo hi q then 0 else 1) := by
  subst ha
  subst hb
  rw [cr_within]
  by_cases h : q < L
  · rw [if_pos h]
    have h126 := (sp_c_s hT h).2
    by_cases h1 : 48 + lo ≤ sp_c L T q ∧ sp_c L T q ≤ 48 + hi
    · have hd : sp_dg L T q = sp_c L T q - 48 := if_pos (by omega)
      rw [if_pos ⟨nI_nlt (by omega) (by omega), nI_nlt (by omega) (by omega)⟩, if_neg (show ¬ sp_bad L T lo hi q by unfold sp_bad; omega)]
    · have hbad : sp_bad L T lo hi q := by
        unfold sp_bad sp_dg
        by_cases h2 : 48 ≤ sp_c L T q ∧ sp_c L T q ≤ 57
        · rw [if_pos h2]; omega
        · rw [if_neg h2]; exact Or.inr (by omega)
      rw [if_neg (show ¬ (¬ nI (sp_c L T q) < nI (48 + lo) ∧ ¬ nI (48 + hi) < nI (sp_c L T q)) from fun hh => by
        apply h1
        constructor
        · rcases Nat.lt_or_ge (sp_c L T q) (48 + lo) with h2 | h2
          · exact absurd (nI_lt h2 (by omega)) hh.1
          · exact h2
        · rcases Nat.lt_or_ge (48 + hi) (sp_c L T q) with h2 | h2
          · exact absurd (nI_lt h2 (by omega)) hh.2
          · exact h2), if_pos hbad]
  · rw [if_neg h]
    have e : sp_dg L T q = 99 := by
      rcases sp_dg_lt (L := L) (T := T) (q := q) with h1 | h1
      · exact absurd (sp_dg_in (T := T) (show sp_dg L T q < 99 by omega)) h
      · exact h1
    rw [if_neg (show ¬ (¬ (-1 : Int32) < nI (48 + lo) ∧ ¬ nI (48 + hi) < (-1 : Int32)) from fun hh => by
      apply hh.1
      rw [Int32.lt_iff_toInt_lt, nI_toInt (by omega)]
      have h2 : (-1 : Int32).toInt = -1 := by decide
      omega), if_pos (show sp_bad L T lo hi q from Or.inr (by omega))]
theorem cr_dg1 {V0 V : cr_Hp} {L q lo hi : Nat} {T : Nat → Int32} (hT : cr_MX V0 L T) (hN : cr_N V0 V q) (hlo : lo ≤ 9) (hhi : hi ≤ 9) (hq : q ≤ 81) : (¬ sp_bad L T lo hi q → ∃ W, f_X8_readsDigit (nI lo) (nI hi) V = some (1, W) ∧ cr_N V0 W (q + 1) ∧ W 159 17 = nI (sp_dg L T q) ∧ ∀ t, 16 ≤ t → t ≠ 17 → W 159 t = V 159 t) ∧ (sp_bad L T lo hi q → ∃ W, f_X8_readsDigit (nI lo) (nI hi) V = some (0, W) ∧ cr_N V0 W q ∧ ∀ t, 16 ≤ t → t ≠ 17 → W 159 t = V 159 t) := by
  have hX := cr_N_X hT hN
  obtain ⟨n1, n2, n3, n4⟩ := hN
  unfold f_X8_readsDigit
  rw [n3, cr_char hX n4, cr_bd_some, cr_wd (lo := lo) (hi := hi) hT.1 (by rw [cr_L48, nI_add]) (by rw [cr_L48, nI_add]) hlo hhi, cr_bd_some, cr_bd_some, cr_lt_e]
  constructor
  · intro hb
    have d99 := sp_bad_n hb (by omega)
    have hqL := sp_dg_in d99
    have hd : sp_dg L T q = sp_c L T q - 48 ∧ 48 ≤ sp_c L T q := by
      unfold sp_dg at d99 ⊢
      by_cases h : 48 ≤ sp_c L T q ∧ sp_c L T q ≤ 57
      · rw [if_pos h]; omega
      · rw [if_neg h] at d99; omega
    have e15 : cr_pt V 159 17 (nI (sp_c L T q) - (48 : Int32)) 159 15 = nI q := by rw [cr_pv, if_neg (by omega)]; exact n3
    rw [if_neg hb, if_neg (by decide), if_pos hqL, e15, cr_lt_e, cr_gd_e (Or.inr rfl), cr_1]
    refine ⟨_, rfl, ⟨fun c hc => by rw [cr_pt_ne hc, cr_pt_ne hc]; exact n1 c hc, fun s hs => by rw [cr_pv, if_neg (by omega), cr_pv, if_neg (by omega)]; exact n2 s hs, by rw [cr_pv, if_pos ⟨rfl, rfl⟩], by omega⟩, ?_, fun t t1 t2 => by rw [cr_pv, if_neg (by omega), cr_pv, if_neg (by omega)]⟩
    rw [cr_pv, if_neg (by omega), cr_pv, if_pos ⟨rfl, rfl⟩, cr_L48, pk_sub hd.2, hd.1]
  · intro hb
    obtain ⟨v, ev⟩ : ∃ v, v = (if q < L then nI (sp_c L T q) else (-1 : Int32)) - (48 : Int32) := ⟨_, rfl⟩
    rw [← ev]
    have e15 : cr_pt V 159 17 v 159 15 = nI q := by rw [cr_pv, if_neg (by omega)]; exact n3
    rw [if_pos hb, if_pos rfl, e15, cr_lt_e, cr_gd_e (Or.inl rfl), Int32.add_zero]
    exact ⟨_, rfl, ⟨fun c hc => by rw [cr_pt_ne hc, cr_pt_ne hc]; exact n1 c hc, fun s hs => by rw [cr_pv, if_neg (by omega), cr_pv, if_neg (by omega)]; exact n2 s hs, by rw [cr_pv, if_pos ⟨rfl, rfl⟩], n4⟩, fun t t1 t2 => by rw [cr_pv, if_neg (by omega), cr_pv, if_neg (by omega)]⟩
theorem cr_nb1 {V0 V : cr_Hp} {L q lo hi : Nat} {T : Nat → Int32} (hT : cr_MX V0 L T) (hN : cr_N V0 V q) (hlo : lo ≤ 9) (hhi : 9 ≤ hi) (hhi2 : hi ≤ 30) (hq : q ≤ 81) : (¬ sp_bad L T lo hi q → ∃ W, f_X8_readsNumber (nI lo) (nI hi) V = some (1, W) ∧ cr_N V0 W (sp_e L T hi q) ∧ W 159 17 = nI (sp_v L T hi q) ∧ ∀ t, 16 ≤ t → t ≠ 17 → W 159 t = V 159 t) ∧ (sp_bad L T lo hi q → ∃ W, f_X8_readsNumber (nI lo) (nI hi) V = some (0, W) ∧ cr_N V0 W q ∧ ∀ t, 16 ≤ t → t ≠ 17 → W 159 t = V 159 t) := by
  have hiff : sp_bad L T lo 9 q ↔ sp_bad L T lo hi q := by
    unfold sp_bad
    rcases sp_dg_lt (L := L) (T := T) (q := q) with h | h <;> omega
  obtain ⟨d1, d2⟩ := cr_dg1 (lo := lo) (hi := 9) hT hN hlo (by omega) hq
  unfold f_X8_readsNumber
  constructor
  · intro hb
    obtain ⟨W, e, hW, h17, hk⟩ := d1 (fun h => hb (hiff.mp h))
    have d99 := sp_bad_n hb (by omega)
    have d9 : sp_dg L T q ≤ 9 := by
      rcases sp_dg_lt (L := L) (T := T) (q := q) with h9 | h99
      · exact h9
      · omega
    have hX := cr_N_X hT hW
    rw [show f_X8_readsDigit (nI lo) (9 : Int32) V = some (1, W) from e, cr_b2_some, if_neg (by decide), hW.2.2.1, cr_char hX (by omega), cr_bd_some, cr_lt_e, h17]
    by_cases h0 : sp_dg L T q = 0
    · have e2 : sp_e L T hi q = q + 1 := if_neg (by unfold sp_two; omega)
      have v2 : sp_v L T hi q = sp_dg L T q := if_neg (by unfold sp_two; omega)
      rw [if_pos (show nI (sp_dg L T q) ≤ 0 by rw [h0]; decide), e2, v2]
      exact ⟨W, rfl, hW, h17, hk⟩
    · rw [if_neg (nI_nle (by omega) (by omega)), cr_bd_some, cr_wd (lo := 0) (hi := 9) (a := (48 : Int32)) (b := (57 : Int32)) hT.1 rfl rfl (by omega) (by omega), cr_bd_some]
      by_cases hb2 : sp_bad L T 0 9 (q + 1)
      · have hn : ¬ sp_two L T hi q := by
          unfold sp_two
          have := hb2
          unfold sp_bad at this
          omega
        rw [if_pos hb2, if_pos rfl, show sp_e L T hi q = q + 1 from if_neg hn, show sp_v L T hi q = sp_dg L T q from if_neg hn]
        exact ⟨W, rfl, hW, h17, hk⟩
      · have g99 := sp_bad_n hb2 (by omega)
        have gL := sp_dg_in g99
        have g9 : sp_dg L T (q + 1) ≤ 9 := by
          rcases sp_dg_lt (L := L) (T := T) (q := q + 1) with h9 | h99
          · exact h9
          · omega
        have gd : sp_c L T (q + 1) = 48 + sp_dg L T (q + 1) := by
          unfold sp_dg at g99 ⊢
          by_cases h : 48 ≤ sp_c L T (q + 1) ∧ sp_c L T (q + 1) ≤ 57
          · rw [if_pos h]; omega
          · rw [if_neg h] at g99; omega
        have en : ((((10 : Int32) * nI (sp_dg L T q)) + (if q + 1 < L then nI (sp_c L T (q + 1)) else (-1 : Int32))) - (48 : Int32)) = nI (10 * sp_dg L T q + sp_dg L T (q + 1)) := by
          rw [if_pos gL, gd, cr_L10, pk_mul, nI_add, cr_L48, pk_sub (by omega), show 10 * sp_dg L T q + (48 + sp_dg L T (q + 1)) - 48 = 10 * sp_dg L T q + sp_dg L T (q + 1) by omega]
        rw [if_neg hb2, if_neg (by decide), en]
        by_cases h3 : 10 * sp_dg L T q + sp_dg L T (q + 1) ≤ hi
        · have hy : sp_two L T hi q := ⟨by omega, by omega, h3⟩
          have e15 : cr_pt W 159 17 (nI (10 * sp_dg L T q + sp_dg L T (q + 1))) 159 15 = nI (q + 1) := by rw [cr_pv, if_neg (by omega)]; exact hW.2.2.1
          rw [if_neg (nI_nlt h3 (by omega)), cr_lt_e, cr_lt_e, e15, cr_1, show sp_e L T hi q = q + 1 + 1 from if_pos hy, show sp_v L T hi q = 10 * sp_dg L T q + sp_dg L T (q + 1) from if_pos hy]
          exact ⟨_, rfl, ⟨fun c hc => by rw [cr_pt_ne hc, cr_pt_ne hc]; exact hW.1 c hc, fun s hs => by rw [cr_pv, if_neg (by omega), cr_pv, if_neg (by omega)]; exact hW.2.1 s hs, by rw [cr_pv, if_pos ⟨rfl, rfl⟩], by omega⟩, by rw [cr_pv, if_neg (by omega), cr_pv, if_pos ⟨rfl, rfl⟩], fun t t1 t2 => by rw [cr_pv, if_neg (by omega), cr_pv, if_neg (by omega)]; exact hk t t1 t2⟩
        · have hn : ¬ sp_two L T hi q := fun h => h3 h.2.2
          rw [if_pos (nI_lt (by omega) (by omega)), show sp_e L T hi q = q + 1 from if_neg hn, show sp_v L T hi q = sp_dg L T q from if_neg hn]
          exact ⟨W, rfl, hW, h17, hk⟩
  · intro hb
    obtain ⟨W, e, hW, hk⟩ := d2 (hiff.mpr hb)
    rw [show f_X8_readsDigit (nI lo) (9 : Int32) V = some (0, W) from e, cr_b2_some, if_pos rfl]
    exact ⟨W, rfl, hW, hk⟩
def cr_oM (r : Int32) (W : cr_Hp) (o : sp_O) : Prop := (∀ q', o = .inl q' → r = 0 ∧ W 159 15 = nI q') ∧ ∀ g x y a p q', o = .inr (g, x, y, a, p, q') → r = 1 ∧ W 159 15 = nI q' ∧ W 159 16 = (if g = true then 114 else 109) ∧ W 159 18 = nI x ∧ W 159 19 = nI y ∧ W 159 20 = nI a ∧ (g = false → W 159 21 = nI p)
theorem cr_oM_l {V0 W : cr_Hp} {q : Nat} (h : cr_N V0 W q) : cr_oM 0 W (.inl q) := by
  refine ⟨fun q' e => ?_, fun g x y a p q' e => ?_⟩
  · cases e; exact ⟨rfl, h.2.2.1⟩
  · cases e
theorem cr_f170 {V0 V : cr_Hp} {q : Nat} (hN : cr_N V0 V q) : ∃ W, f_X8_readsItem_b170 (0 : Int32) V = some (0, W) ∧ cr_N V0 W q := by
  unfold f_X8_readsItem_b170
  rw [cr_lt_e, if_pos rfl, cr_lt_e]
  exact ⟨_, rfl, cr_N_put (cr_N_put hN (by omega)) (by omega)⟩
theorem cr_f86 {V0 V : cr_Hp} {q : Nat} (hN : cr_N V0 V q) : ∃ W, f_X8_readsItem_b86 (0 : Int32) V = some (0, W) ∧ cr_N V0 W q := by
  unfold f_X8_readsItem_b86
  rw [cr_lt_e, if_pos rfl, if_pos rfl]
  by_cases h : cr_pt V 159 19 (V 159 17) 159 16 = 114
  · rw [if_pos h, cr_lt_e]
    exact ⟨_, rfl, cr_N_put (cr_N_put hN (by omega)) (by omega)⟩
  · rw [if_neg h]
    unfold f_X8_readsItem_b169
    exact cr_f170 (cr_N_put hN (by omega))
def sp_oq (o : sp_O) : Nat := match o with | .inl q' => q' | .inr z => z.2.2.2.2.2
theorem cr_m86 {V0 V : cr_Hp} {L q q2 x y : Nat} {T : Nat → Int32} (hT : cr_MX V0 L T) (hN : cr_N V0 V q2) (hq : q2 ≤ L) (h17 : V 159 17 = nI y) (h18 : V 159 18 = nI x) (h16 : V 159 16 = nI (sp_c L T q)) (hc : sp_c L T q = 114 ∨ sp_c L T q = 109) : ∃ r W, f_X8_readsItem_b86 (1 : Int32) V = some (r, W) ∧ cr_N V0 W (sp_oq (if sp_c L T q = 114 then sp_iR L T x y q2 else sp_iM L T x y q2)) ∧ cr_oM r W (if sp_c L T q = 114 then sp_iR L T x y q2 else sp_iM L T x y q2) := by
  have hL := hT.1.1
  have bnd : ∀ {lo hi q : Nat}, ¬ sp_bad L T lo hi q → hi ≤ 30 → sp_e L T hi q ≤ L := fun h hh => (sp_e_le (sp_bad_n h (by omega))).2
  have cin : ∀ {q z : Nat}, sp_c L T q = z → z ≤ 126 → q < L := fun h hz => sp_c_in (T := T) (by omega)
  obtain ⟨V1, eV1⟩ : ∃ V1, V1 = cr_pt V 159 19 (nI y) := ⟨_, rfl⟩
  have N1 : cr_N V0 V1 q2 := by rw [eV1]; exact cr_N_put hN (by omega)
  have p16 : V1 159 16 = nI (sp_c L T q) := by rw [eV1, cr_pv, if_neg (by omega)]; exact h16
  have p17 : V1 159 17 = nI y := by rw [eV1, cr_pv, if_neg (by omega)]; exact h17
  have p18 : V1 159 18 = nI x := by rw [eV1, cr_pv, if_neg (by omega)]; exact h18
  have p19 : V1 159 19 = nI y := by rw [eV1, cr_pv, if_pos ⟨rfl, rfl⟩]
  unfold f_X8_readsItem_b86
  rw [h17, cr_lt_e, ← eV1, p16]
  by_cases h114 : sp_c L T q = 114
  · rw [if_pos (show nI (sp_c L T q) = (114 : Int32) by rw [h114]; rfl), if_neg (by decide), if_pos h114]
    obtain ⟨b1, c1⟩ := cr_next1 (z := 58) hT N1 (by omega) (by omega)
    unfold sp_iR
    by_cases h5 : sp_c L T q2 = 58
    · obtain ⟨W, e, N2, k2⟩ := b1 h5
      have := cin h5 (by omega)
      rw [if_neg (fun h => h h5), show f_X8_isNext (58 : Int32) V1 = some (1, W) from e, cr_b2_some, if_neg (by decide)]
      obtain ⟨d2, d1⟩ := cr_nb1 (lo := 1) (hi := 15) hT N2 (by omega) (by omega) (by omega) (by omega)
      by_cases h6 : sp_bad L T 1 15 (q2 + 1)
      · obtain ⟨W2, e2, N3, k3⟩ := d1 h6
        rw [if_pos h6, show f_X8_readsNumber (1 : Int32) (15 : Int32) W = some (0, W2) from e2, cr_b2_some, if_pos rfl, cr_lt_e]
        exact ⟨_, _, rfl, cr_N_put N3 (by omega), cr_oM_l (cr_N_put N3 (by omega))⟩
      · obtain ⟨W2, e2, N3, r17, k3⟩ := d2 h6
        rw [if_neg h6, show f_X8_readsNumber (1 : Int32) (15 : Int32) W = some (1, W2) from e2, cr_b2_some, if_neg (by decide), cr_lt_e]
        have N4 := cr_N_put (t := 20) (v := W2 159 17) N3 (by omega)
        refine ⟨_, _, rfl, N4, fun q' h => (by cases h), fun g x' y' a p q' h => ?_⟩
        cases h
        refine ⟨rfl, N4.2.2.1, ?_, ?_, ?_, ?_, fun h => by cases h⟩
        · rw [cr_pv, if_neg (by omega), k3 16 (by omega) (by omega), k2 16 (by omega), p16, h114, if_pos rfl]; rfl
        · rw [cr_pv, if_neg (by omega), k3 18 (by omega) (by omega), k2 18 (by omega), p18]
        · rw [cr_pv, if_neg (by omega), k3 19 (by omega) (by omega), k2 19 (by omega), p19]
        · rw [cr_pv, if_pos ⟨rfl, rfl⟩, r17]
    · obtain ⟨W, e, N2, k2⟩ := c1 h5
      rw [if_pos h5, show f_X8_isNext (58 : Int32) V1 = some (0, W) from e, cr_b2_some, if_pos rfl, cr_lt_e]
      exact ⟨_, _, rfl, cr_N_put N2 (by omega), cr_oM_l (cr_N_put N2 (by omega))⟩
  · have h109 : sp_c L T q = 109 := hc.resolve_left h114
    rw [if_neg (show ¬ nI (sp_c L T q) = (114 : Int32) by rw [h109]; decide), if_neg (by decide), if_neg h114]
    obtain ⟨b1, c1⟩ := cr_next1 (z := 115) hT N1 (by omega) (by omega)
    unfold sp_iM
    by_cases h5 : sp_c L T q2 = 115
    · obtain ⟨W, e, N2, k2⟩ := b1 h5
      have := cin h5 (by omega)
      rw [if_neg (fun h => h h5), show f_X8_isNext (115 : Int32) V1 = some (1, W) from e, cr_b2_some, if_neg (by decide)]
      obtain ⟨d2, d1⟩ := cr_dg1 (lo := 1) (hi := 3) hT N2 (by omega) (by omega) (by omega)
      by_cases h6 : sp_bad L T 1 3 (q2 + 1)
      · obtain ⟨W2, e2, N3, k3⟩ := d1 h6
        rw [if_pos h6, show f_X8_readsDigit (1 : Int32) (3 : Int32) W = some (0, W2) from e2, cr_b2_some, if_pos rfl]
        unfold f_X8_readsItem_b169
        obtain ⟨W3, e3, N4⟩ := cr_f170 N3
        exact ⟨_, _, e3, N4, cr_oM_l N4⟩
      · obtain ⟨W2, e2, N3, r17, k3⟩ := d2 h6
        have hn3 : ¬ sp_two L T 3 (q2 + 1) := by
          unfold sp_two
          have := h6
          unfold sp_bad at this
          omega
        have ee : sp_e L T 3 (q2 + 1) = q2 + 1 + 1 := if_neg hn3
        have ev : sp_v L T 3 (q2 + 1) = sp_dg L T (q2 + 1) := if_neg hn3
        have := bnd h6 (by omega)
        rw [if_neg h6, show f_X8_readsDigit (1 : Int32) (3 : Int32) W = some (1, W2) from e2, cr_b2_some, if_neg (by decide), ee, ev]
        unfold f_X8_readsItem_b170
        obtain ⟨V4, eV4⟩ : ∃ V4, V4 = cr_pt W2 159 20 (nI (sp_dg L T (q2 + 1))) := ⟨_, rfl⟩
        have N4 : cr_N V0 V4 (q2 + 1 + 1) := by rw [eV4]; exact cr_N_put N3 (by omega)
        rw [r17, cr_lt_e, if_neg (by decide), ← eV4]
        obtain ⟨b4, c4⟩ := cr_next1 (z := 112) hT N4 (by omega) (by omega)
        unfold sp_iM2
        by_cases h7 : sp_c L T (q2 + 1 + 1) = 112
        · obtain ⟨W5, e5, N5, k5⟩ := b4 h7
          have := cin h7 (by omega)
          rw [if_neg (fun h => h h7), show f_X8_isNext (112 : Int32) V4 = some (1, W5) from e5, cr_b2_some, if_neg (by decide)]
          obtain ⟨d6, d5⟩ := cr_dg1 (lo := 0) (hi := 2) hT N5 (by omega) (by omega) (by omega)
          by_cases h8 : sp_bad L T 0 2 (q2 + 1 + 1 + 1)
          · obtain ⟨W6, e6, N6, k6⟩ := d5 h8
            rw [if_pos h8, show f_X8_readsDigit (0 : Int32) (2 : Int32) W5 = some (0, W6) from e6, cr_b2_some, if_pos rfl, cr_lt_e]
            exact ⟨_, _, rfl, cr_N_put N6 (by omega), cr_oM_l (cr_N_put N6 (by omega))⟩
          · obtain ⟨W6, e6, N6, s17, k6⟩ := d6 h8
            have hn2 : ¬ sp_two L T 2 (q2 + 1 + 1 + 1) := by unfold sp_two; omega
            have ee2 : sp_e L T 2 (q2 + 1 + 1 + 1) = q2 + 1 + 1 + 1 + 1 := if_neg hn2
            have ev2 : sp_v L T 2 (q2 + 1 + 1 + 1) = sp_dg L T (q2 + 1 + 1 + 1) := if_neg hn2
            rw [if_neg h8, show f_X8_readsDigit (0 : Int32) (2 : Int32) W5 = some (1, W6) from e6, cr_b2_some, if_neg (by decide), cr_lt_e, ee2, ev2]
            have N7 := cr_N_put (t := 21) (v := W6 159 17) N6 (by omega)
            refine ⟨_, _, rfl, N7, fun q' h => (by cases h), fun g x' y' a p q' h => ?_⟩
            cases h
            refine ⟨rfl, N7.2.2.1, ?_, ?_, ?_, ?_, fun _ => ?_⟩
            · rw [cr_pv, if_neg (by omega), k6 16 (by omega) (by omega), k5 16 (by omega), eV4, cr_pv, if_neg (by omega), k3 16 (by omega) (by omega), k2 16 (by omega), p16, h109, if_neg (by decide)]; rfl
            · rw [cr_pv, if_neg (by omega), k6 18 (by omega) (by omega), k5 18 (by omega), eV4, cr_pv, if_neg (by omega), k3 18 (by omega) (by omega), k2 18 (by omega), p18]
            · rw [cr_pv, if_neg (by omega), k6 19 (by omega) (by omega), k5 19 (by omega), eV4, cr_pv, if_neg (by omega), k3 19 (by omega) (by omega), k2 19 (by omega), p19]
            · rw [cr_pv, if_neg (by omega), k6 20 (by omega) (by omega), k5 20 (by omega), eV4, cr_pv, if_pos ⟨rfl, rfl⟩]
            · rw [cr_pv, if_pos ⟨rfl, rfl⟩, s17]
        · obtain ⟨W5, e5, N5, k5⟩ := c4 h7
          rw [if_pos h7, show f_X8_isNext (112 : Int32) V4 = some (0, W5) from e5, cr_b2_some, if_pos rfl, cr_lt_e]
          exact ⟨_, _, rfl, cr_N_put N5 (by omega), cr_oM_l (cr_N_put N5 (by omega))⟩
    · obtain ⟨W, e, N2, k2⟩ := c1 h5
      rw [if_pos h5, show f_X8_isNext (115 : Int32) V1 = some (0, W) from e, cr_b2_some, if_pos rfl]
      unfold f_X8_readsItem_b169
      obtain ⟨W3, e3, N4⟩ := cr_f170 N2
      exact ⟨_, _, e3, N4, cr_oM_l N4⟩
theorem cr_mitem {V0 V : cr_Hp} {L q : Nat} {T : Nat → Int32} (hT : cr_MX V0 L T) (hN : cr_N V0 V q) (hq : q ≤ L) : ∃ r W, f_X8_readsItem V = some (r, W) ∧ cr_N V0 W (sp_oq (sp_it L T q)) ∧ cr_oM r W (sp_it L T q) := by
  have hL := hT.1.1
  have bnd : ∀ {lo hi q : Nat}, ¬ sp_bad L T lo hi q → hi ≤ 30 → sp_e L T hi q ≤ L := fun h hh => (sp_e_le (sp_bad_n h (by omega))).2
  have cin : ∀ {q z : Nat}, sp_c L T q = z → z ≤ 126 → q < L := fun h hz => sp_c_in (T := T) (by omega)
  have hX := cr_N_X hT hN
  unfold f_X8_readsItem
  rw [hN.2.2.1, cr_char hX hN.2.2.2, cr_bd_some, cr_lt_e]
  obtain ⟨v, ev⟩ : ∃ v, v = (if q < L then nI (sp_c L T q) else (-1 : Int32)) := ⟨_, rfl⟩
  rw [← ev]
  have e16 : cr_pt V 159 16 v 159 16 = v := by rw [cr_pv, if_pos ⟨rfl, rfl⟩]
  have N1 : cr_N V0 (cr_pt V 159 16 v) q := cr_N_put hN (by omega)
  rw [e16]
  have hv : ∀ z, z ≤ 126 → (v = nI z ↔ sp_c L T q = z) := fun z hz => by rw [ev]; exact cr_sign_eq hT.1 hz
  unfold sp_it
  by_cases hc : sp_c L T q = 114 ∨ sp_c L T q = 109
  · have hqL : q < L := by
      rcases hc with h | h
      · exact cin h (by omega)
      · exact cin h (by omega)
    have hvq : v = nI (sp_c L T q) := by rw [ev, if_pos hqL]
    rw [if_neg (show ¬ ¬ (sp_c L T q = 114 ∨ sp_c L T q = 109) from fun h => h hc)]
    have same : (if v = (109 : Int32) then (f_X8_readsItem_b32 (cr_pt V 159 16 v)) else (if v = (114 : Int32) then (f_X8_readsItem_b32 (cr_pt V 159 16 v)) else (some ((0 : Int32), cr_pt V 159 16 v)))) = f_X8_readsItem_b32 (cr_pt V 159 16 v) := by
      rcases hc with h | h
      · rw [hvq, h, if_neg (by decide), if_pos (by decide)]
      · rw [hvq, h, if_pos (by decide)]
    rw [same]
    unfold f_X8_readsItem_b32
    have e15 : cr_pt V 159 16 v 159 15 = nI q := N1.2.2.1
    obtain ⟨V2, eV2⟩ : ∃ V2, V2 = cr_pt (cr_pt V 159 16 v) 159 15 (nI (q + 1)) := ⟨_, rfl⟩
    rw [cr_lt_e, e15, cr_1, ← eV2]
    have N2 : cr_N V0 V2 (q + 1) := by
      rw [eV2]
      exact ⟨fun c hc => by rw [cr_pt_ne hc]; exact N1.1 c hc, fun s hs => by rw [cr_pv, if_neg (by omega)]; exact N1.2.1 s hs, by rw [cr_pv, if_pos ⟨rfl, rfl⟩], by omega⟩
    have p16 : V2 159 16 = nI (sp_c L T q) := by rw [eV2, cr_pv, if_neg (by omega), e16, hvq]
    obtain ⟨d2, d1⟩ := cr_nb1 (lo := 0) (hi := 30) hT N2 (by omega) (by omega) (by omega) (by omega)
    by_cases h2 : sp_bad L T 0 30 (q + 1)
    · obtain ⟨W, e, N3, k3⟩ := d1 h2
      rw [if_pos h2, show f_X8_readsNumber (0 : Int32) (30 : Int32) V2 = some (0, W) from e, cr_b2_some, cr_lt_e, if_pos rfl]
      unfold f_X8_readsItem_b85
      obtain ⟨W2, e2, N4⟩ := cr_f86 (cr_N_put (t := 18) (v := W 159 17) N3 (by omega))
      exact ⟨_, _, e2, N4, cr_oM_l N4⟩
    · obtain ⟨W, e, N3, r17, k3⟩ := d2 h2
      have := bnd h2 (by omega)
      rw [if_neg h2, show f_X8_readsNumber (0 : Int32) (30 : Int32) V2 = some (1, W) from e, cr_b2_some, cr_lt_e, if_neg (by decide), r17]
      obtain ⟨V3, eV3⟩ : ∃ V3, V3 = cr_pt W 159 18 (nI (sp_v L T 30 (q + 1))) := ⟨_, rfl⟩
      have N4 : cr_N V0 V3 (sp_e L T 30 (q + 1)) := by rw [eV3]; exact cr_N_put N3 (by omega)
      rw [← eV3]
      obtain ⟨b4, c4⟩ := cr_next1 (z := 44) hT N4 (by omega) (by omega)
      unfold sp_iY
      by_cases h3 : sp_c L T (sp_e L T 30 (q + 1)) = 44
      · obtain ⟨W5, e5, N5, k5⟩ := b4 h3
        have := cin h3 (by omega)
        rw [if_neg (fun h => h h3), show f_X8_isNext (44 : Int32) V3 = some (1, W5) from e5, cr_b2_some, if_neg (by decide)]
        obtain ⟨d6, d5⟩ := cr_nb1 (lo := 0) (hi := 30) hT N5 (by omega) (by omega) (by omega) (by omega)
        by_cases h4 : sp_bad L T 0 30 (sp_e L T 30 (q + 1) + 1)
        · obtain ⟨W6, e6, N6, k6⟩ := d5 h4
          rw [if_pos h4, show f_X8_readsNumber (0 : Int32) (30 : Int32) W5 = some (0, W6) from e6, cr_b2_some, if_pos rfl]
          unfold f_X8_readsItem_b85
          obtain ⟨W7, e7, N7⟩ := cr_f86 N6
          exact ⟨_, _, e7, N7, cr_oM_l N7⟩
        · obtain ⟨W6, e6, N6, s17, k6⟩ := d6 h4
          rw [if_neg h4, show f_X8_readsNumber (0 : Int32) (30 : Int32) W5 = some (1, W6) from e6, cr_b2_some, if_neg (by decide)]
          have g16 : W6 159 16 = nI (sp_c L T q) := by rw [k6 16 (by omega) (by omega), k5 16 (by omega), eV3, cr_pv, if_neg (by omega), k3 16 (by omega) (by omega), p16]
          have g18 : W6 159 18 = nI (sp_v L T 30 (q + 1)) := by rw [k6 18 (by omega) (by omega), k5 18 (by omega), eV3, cr_pv, if_pos ⟨rfl, rfl⟩]
          obtain ⟨r, W7, e7, N7, O7⟩ := cr_m86 (q := q) hT N6 (bnd h4 (by omega)) s17 g18 g16 hc
          exact ⟨r, W7, e7, N7, O7⟩
      · obtain ⟨W5, e5, N5, k5⟩ := c4 h3
        rw [if_pos h3, show f_X8_isNext (44 : Int32) V3 = some (0, W5) from e5, cr_b2_some, if_pos rfl]
        unfold f_X8_readsItem_b85
        obtain ⟨W7, e7, N7⟩ := cr_f86 N5
        exact ⟨_, _, e7, N7, cr_oM_l N7⟩
  · rw [if_pos hc, if_neg (show ¬ v = (109 : Int32) from fun h => hc (Or.inr ((hv 109 (by omega)).mp h))), if_neg (show ¬ v = (114 : Int32) from fun h => hc (Or.inl ((hv 114 (by omega)).mp h)))]
    exact ⟨_, _, rfl, N1, cr_oM_l N1⟩
