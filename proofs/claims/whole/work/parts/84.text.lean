/-! syntaxError and readItems -/
def sp_er (L : Nat) (T : Nat → Int32) : Nat → Nat → Int32
  | 0, _ => -1006
  | f + 1, q => match sp_it L T q with
    | .inl q' => nI q'
    | .inr z => if z.2.2.2.2.2 = L then -1006 else if sp_c L T z.2.2.2.2.2 = 59 then sp_er L T f (z.2.2.2.2.2 + 1) else nI z.2.2.2.2.2
theorem sp_er_l {L f q q' : Nat} {T : Nat → Int32} (h : sp_it L T q = .inl q') : sp_er L T (f + 1) q = nI q' := by
  unfold sp_er
  rw [h]
theorem sp_er_r {L f q q' x y a o : Nat} {g : Bool} {T : Nat → Int32} (h : sp_it L T q = .inr (g, x, y, a, o, q')) : sp_er L T (f + 1) q = if q' = L then -1006 else if sp_c L T q' = 59 then sp_er L T f (q' + 1) else nI q' := by
  rw [sp_er, h]
theorem sp_it_le {L q q' : Nat} {T : Nat → Int32} (h : sp_it L T q = .inl q') (hq : q ≤ L) : q' ≤ L := by
  unfold sp_it at h
  by_cases h1 : ¬ (sp_c L T q = 114 ∨ sp_c L T q = 109)
  · rw [if_pos h1] at h; cases h; exact hq
  · rw [if_neg h1] at h
    have hqL : q < L := by
      have h1 := Classical.not_not.mp h1
      rcases h1 with h2 | h2 <;> exact sp_c_in (T := T) (by omega)
    by_cases h2 : sp_bad L T 0 30 (q + 1)
    · rw [if_pos h2] at h; cases h; omega
    · rw [if_neg h2] at h
      have e1 := sp_e_le (hi := 30) (sp_bad_n h2 (by omega))
      unfold sp_iY at h
      by_cases h3 : ¬ sp_c L T (sp_e L T 30 (q + 1)) = 44
      · rw [if_pos h3] at h; cases h; omega
      · rw [if_neg h3] at h
        have g3 : sp_e L T 30 (q + 1) < L := sp_c_in (T := T) (by have := Classical.not_not.mp h3; omega)
        by_cases h4 : sp_bad L T 0 30 (sp_e L T 30 (q + 1) + 1)
        · rw [if_pos h4] at h; cases h; omega
        · rw [if_neg h4] at h
          have e2 := sp_e_le (hi := 30) (sp_bad_n h4 (by omega))
          by_cases h5 : sp_c L T q = 114
          · rw [if_pos h5] at h
            unfold sp_iR at h
            by_cases h6 : ¬ sp_c L T (sp_e L T 30 (sp_e L T 30 (q + 1) + 1)) = 58
            · rw [if_pos h6] at h; cases h; omega
            · rw [if_neg h6] at h
              have g6 : sp_e L T 30 (sp_e L T 30 (q + 1) + 1) < L := sp_c_in (T := T) (by have := Classical.not_not.mp h6; omega)
              by_cases h7 : sp_bad L T 1 15 (sp_e L T 30 (sp_e L T 30 (q + 1) + 1) + 1)
              · rw [if_pos h7] at h; cases h; omega
              · rw [if_neg h7] at h; cases h
          · rw [if_neg h5] at h
            unfold sp_iM at h
            by_cases h6 : ¬ sp_c L T (sp_e L T 30 (sp_e L T 30 (q + 1) + 1)) = 115
            · rw [if_pos h6] at h; cases h; omega
            · rw [if_neg h6] at h
              have g6 : sp_e L T 30 (sp_e L T 30 (q + 1) + 1) < L := sp_c_in (T := T) (by have := Classical.not_not.mp h6; omega)
              by_cases h7 : sp_bad L T 1 3 (sp_e L T 30 (sp_e L T 30 (q + 1) + 1) + 1)
              · rw [if_pos h7] at h; cases h; omega
              · rw [if_neg h7] at h
                have e3 := sp_e_le (hi := 3) (sp_bad_n h7 (by omega))
                unfold sp_iM2 at h
                by_cases h8 : ¬ sp_c L T (sp_e L T 3 (sp_e L T 30 (sp_e L T 30 (q + 1) + 1) + 1)) = 112
                · rw [if_pos h8] at h; cases h; omega
                · rw [if_neg h8] at h
                  have g8 : sp_e L T 3 (sp_e L T 30 (sp_e L T 30 (q + 1) + 1) + 1) < L := sp_c_in (T := T) (by have := Classical.not_not.mp h8; omega)
                  by_cases h9 : sp_bad L T 0 2 (sp_e L T 3 (sp_e L T 30 (sp_e L T 30 (q + 1) + 1) + 1) + 1)
                  · rw [if_pos h9] at h; cases h; omega
                  · rw [if_neg h9] at h; cases h
/-- a failed reader stays where it is -/
theorem cr_itemF {V0 V : cr_Hp} {L q : Nat} {T : Nat → Int32} (hT : cr_TX V0 L T) (hQ : cr_Q V0 V q 1) (hq : q ≤ 80) : ∃ W, f_X1_readItem_b13 V = some W ∧ (∀ c, c ≠ 156 → W c = V0 c) ∧ W 156 1 = nI q ∧ W 156 2 = 1 := by
  have hTV := cr_TX_fr hT hQ.1
  have tk : ∀ (z : Nat) (V : cr_Hp), z ≤ 126 → cr_Q V0 V q 1 → ∃ W, f_X1_take (nI z) V = some W ∧ cr_Q V0 W q 1 := by
    intro z V hz hQ
    obtain ⟨W, q', e', t, Q, E, K, a, -, -⟩ := cr_take1 (z := z) hT hQ (Or.inr rfl) hz hq
    obtain ⟨rfl, rfl⟩ := a rfl
    exact ⟨W, t, Q⟩
  have nm : ∀ (lo hi : Nat) (V : cr_Hp), lo ≤ 1 → hi ≤ 30 → cr_Q V0 V q 1 → ∃ v W, f_X1_takeNumber (nI lo) (nI hi) V = some (v, W) ∧ cr_Q V0 W q 1 := by
    intro lo hi V h1 h2 hQ
    obtain ⟨v, W, q', e', t, Q, E, K, a, -, -⟩ := cr_num1 (lo := lo) (hi := hi) hT hQ (Or.inr rfl) h1 h2 (by omega)
    obtain ⟨rfl, rfl⟩ := a rfl
    exact ⟨v, W, t, Q⟩
  have b53 : ∀ (z : Nat) (V : cr_Hp), z ≤ 126 → cr_Q V0 V q 1 → ∃ W, f_X1_readItem_b53 (nI z) V = some W ∧ cr_Q V0 W q 1 := by
    intro z V hz hQ
    unfold f_X1_readItem_b53
    obtain ⟨V1, t1, Q1⟩ := tk z V hz hQ
    obtain ⟨v2, V2, t2, Q2⟩ := nm 0 30 V1 (by omega) (by omega) Q1
    have Q3 := cr_Q_put (t := 4) (v := v2) Q2 (by omega)
    obtain ⟨V4, t4, Q4⟩ := tk 44 _ (by omega) Q3
    obtain ⟨v5, V5, t5, Q5⟩ := nm 0 30 V4 (by omega) (by omega) Q4
    have Q6 := cr_Q_put (t := 5) (v := v5) Q5 (by omega)
    rw [t1, cr_bd_some, show f_X1_takeNumber (0 : Int32) (30 : Int32) V1 = some (v2, V2) from t2, cr_b2_some, cr_lt_e, show f_X1_take (44 : Int32) (cr_pt V2 156 4 v2) = some V4 from t4, cr_bd_some, show f_X1_takeNumber (0 : Int32) (30 : Int32) V4 = some (v5, V5) from t5, cr_b2_some, cr_lt_e]
    by_cases h3 : cr_pt V5 156 5 v5 156 3 = 0
    · obtain ⟨V7, t7, Q7⟩ := tk 115 _ (by omega) Q6
      obtain ⟨v8, V8, t8, Q8⟩ := nm 1 3 V7 (by omega) (by omega) Q7
      have Q9 := cr_Q_put (t := 7) (v := v8) Q8 (by omega)
      obtain ⟨V10, t10, Q10⟩ := tk 112 _ (by omega) Q9
      obtain ⟨v11, V11, t11, Q11⟩ := nm 0 2 V10 (by omega) (by omega) Q10
      rw [if_pos h3, show f_X1_take (115 : Int32) (cr_pt V5 156 5 v5) = some V7 from t7, cr_bd_some, show f_X1_takeNumber (1 : Int32) (3 : Int32) V7 = some (v8, V8) from t8, cr_b2_some, cr_lt_e, show f_X1_take (112 : Int32) (cr_pt V8 156 7 v8) = some V10 from t10, cr_bd_some, show f_X1_takeNumber (0 : Int32) (2 : Int32) V10 = some (v11, V11) from t11, cr_b2_some, cr_lt_e]
      exact ⟨_, rfl, cr_Q_put Q11 (by omega)⟩
    · obtain ⟨V7, t7, Q7⟩ := tk 58 _ (by omega) Q6
      obtain ⟨v8, V8, t8, Q8⟩ := nm 1 15 V7 (by omega) (by omega) Q7
      rw [if_neg h3, show f_X1_take (58 : Int32) (cr_pt V5 156 5 v5) = some V7 from t7, cr_bd_some, show f_X1_takeNumber (1 : Int32) (15 : Int32) V7 = some (v8, V8) from t8, cr_b2_some, cr_lt_e]
      exact ⟨_, rfl, cr_Q_put Q8 (by omega)⟩
  have fin : ∀ z : Int32, cr_bo z → ∃ W, f_X1_readItem_b35 z V = some W ∧ cr_Q V0 W q 1 := by
    intro z hz
    unfold f_X1_readItem_b35
    rw [cr_gd_e hz, cr_lt_e]
    have Q2 := cr_Q_put (t := 3) (v := z) hQ (by omega)
    by_cases h : cr_pt V 156 3 z 156 3 = 0
    · rw [if_pos h]; exact b53 109 _ (by omega) Q2
    · rw [if_neg h]; exact b53 114 _ (by omega) Q2
  unfold f_X1_readItem_b13
  rw [hQ.2.1, cr_sign hTV hQ.2.2.2, cr_bd_some]
  by_cases hc : (if q < L then nI (sp_c L T q) else (-1 : Int32)) = 114
  · rw [if_pos hc]
    obtain ⟨W, e, Q⟩ := fin 1 (Or.inr rfl)
    exact ⟨W, e, Q.1, Q.2.1, Q.2.2.1⟩
  · rw [if_neg hc]
    obtain ⟨W, e, Q⟩ := fin 0 (Or.inl rfl)
    exact ⟨W, e, Q.1, Q.2.1, Q.2.2.1⟩
theorem cr_more0 {V : cr_Hp} (h : V 156 2 = 1) : f_X1_hasMore V = some 0 := by
  unfold f_X1_hasMore
  rw [h, if_neg (by decide)]
theorem cr_more1 {V : cr_Hp} {L q : Nat} (h2 : V 156 2 = 0) (h1 : V 156 1 = nI q) (hL : V 157 1 = nI L) (hq : q < 2 ^ 31) (hL2 : L < 2 ^ 31) : f_X1_hasMore V = some (if L ≤ q then 0 else 1) := by
  unfold f_X1_hasMore
  rw [h2, if_pos rfl, h1, hL]
  by_cases h : L ≤ q
  · rw [if_pos (nI_le h hq), if_pos h]
  · rw [if_neg (nI_ge (by omega) hL2), if_neg h]
/-- the next item: its ';' and it -/
theorem cr_nextItem {V0 V : cr_Hp} {L q : Nat} {T : Nat → Int32} (hT : cr_TX V0 L T) (hQ : cr_Q V0 V q 0) (h0 : 0 < q) (hq : q ≤ L) : (sp_c L T q = 59 → ∃ W, f_X1_readItem V = some W ∧ (∀ c, c ≠ 156 → W c = V0 c) ∧ cr_oC W (sp_it L T (q + 1))) ∧ (¬ sp_c L T q = 59 → ∃ W, f_X1_readItem V = some W ∧ (∀ c, c ≠ 156 → W c = V0 c) ∧ W 156 1 = nI q ∧ W 156 2 = 1) := by
  have hL := hT.1.1
  obtain ⟨V1, q1, e1, t1, Q1, E1, K1, a1, b1, c1⟩ := cr_take1 (z := 59) hT hQ (Or.inl rfl) (by omega) (by omega)
  unfold f_X1_readItem
  rw [hQ.2.1, if_neg (nI_nle h0 (by omega)), show f_X1_take (59 : Int32) V = some V1 from t1, cr_bd_some]
  constructor
  · intro hc
    obtain ⟨rfl, rfl⟩ := b1 rfl hc
    have : q < L := sp_c_in (T := T) (by omega)
    exact cr_item13 hT Q1 (by omega)
  · intro hc
    obtain ⟨rfl, rfl⟩ := c1 rfl hc
    exact cr_itemF hT Q1 (by omega)
theorem cr_serC {V0 : cr_Hp} {L : Nat} {T : Nat → Int32} (hT : cr_TX V0 L T) : ∀ (f q i fuel : Nat) (V : cr_Hp), (∀ c, c ≠ 156 → V c = V0 c) → cr_oC V (sp_it L T q) → L - q < f → i ≤ q + 1 → q ≤ L → f ≤ fuel → ∃ W, cr_it (fun (q : Int32 × cr_Hp) => f_X7_syntaxError_l16 q.1 q.2) fuel (nI i, V) = some W ∧ (∀ c, c ≠ 156 → W c = V0 c) ∧ f_X7_syntaxError_b45 W = some (sp_er L T f q, W)
  | 0, q, i, fuel, V, _, _, hf, _, _, _ => by omega
  | f + 1, q, i, 0, V, _, _, hf, _, _, hu => by omega
  | f + 1, q, i, fuel + 1, V, hfr, ho, hf, hi, hq, hu => by
    have hL := hT.1.1
    have hTV := cr_TX_fr hT hfr
    have stop : f_X7_syntaxError_l16 (nI i) V = some (.inr V) → f_X7_syntaxError_b45 V = some (sp_er L T (f + 1) q, V) → ∃ W, cr_it (fun (q : Int32 × cr_Hp) => f_X7_syntaxError_l16 q.1 q.2) (fuel + 1) (nI i, V) = some W ∧ (∀ c, c ≠ 156 → W c = V0 c) ∧ f_X7_syntaxError_b45 W = some (sp_er L T (f + 1) q, W) := fun h1 h2 => ⟨V, cr_it_r h1, hfr, h2⟩
    rcases hit : sp_it L T q with q' | ⟨g, x, y, a, o, q'⟩
    · obtain ⟨w1, w2⟩ := ho.1 q' hit
      refine stop ?_ ?_
      · unfold f_X7_syntaxError_l16
        by_cases h80 : (80 : Int32) ≤ nI i
        · rw [if_pos h80]
        · rw [if_neg h80, cr_more0 w2, cr_bd_some, if_pos rfl]
      · unfold f_X7_syntaxError_b45
        rw [w2, if_neg (by decide), w1, sp_er_l hit]
    · obtain ⟨w1, w2, -, -, -, -, -⟩ := ho.2 g x y a o q' hit
      obtain ⟨n1, n2⟩ := sp_it_end hit
      by_cases hl : q' = L
      · subst hl
        refine stop ?_ ?_
        · unfold f_X7_syntaxError_l16
          by_cases h80 : (80 : Int32) ≤ nI i
          · rw [if_pos h80]
          · rw [if_neg h80, cr_more1 w2 w1 hTV.2.1 (by omega) (by omega), if_pos (Nat.le_refl _), cr_bd_some, if_pos rfl]
        · unfold f_X7_syntaxError_b45
          rw [w2, if_pos rfl, sp_er_r hit, if_pos rfl]
      · obtain ⟨y1, y2⟩ := cr_nextItem (q := q') hT ⟨hfr, w1, w2, by omega⟩ (by omega) (by omega)
        have go : ∀ W, f_X1_readItem V = some W → f_X7_syntaxError_l16 (nI i) V = some (.inl (nI (i + 1), W)) := by
          intro W e
          unfold f_X7_syntaxError_l16
          rw [cr_L80, if_neg (nI_ge (by omega) (by decide)), cr_more1 w2 w1 hTV.2.1 (by omega) (by omega), if_neg (show ¬ L ≤ q' by omega), cr_bd_some, if_neg (by decide), e, cr_bd_some, cr_1]
        by_cases hc : sp_c L T q' = 59
        · obtain ⟨W, e, wf, wo⟩ := y1 hc
          obtain ⟨W2, e2, x1, x2⟩ := cr_serC hT f (q' + 1) (i + 1) fuel W wf wo (by omega) (by omega) (by omega) (by omega)
          refine ⟨W2, (cr_it_l (go W e)).trans e2, x1, ?_⟩
          rw [sp_er_r hit, if_neg hl, if_pos hc]
          exact x2
        · obtain ⟨W, e, wf, z1, z2⟩ := y2 hc
          obtain ⟨fuel2, hfu⟩ : ∃ g, fuel = g + 1 := ⟨fuel - 1, by omega⟩
          subst hfu
          have st : f_X7_syntaxError_l16 (nI (i + 1)) W = some (.inr W) := by
            unfold f_X7_syntaxError_l16
            by_cases h80 : (80 : Int32) ≤ nI (i + 1)
            · rw [if_pos h80]
            · rw [if_neg h80, cr_more0 z2, cr_bd_some, if_pos rfl]
          refine ⟨W, (cr_it_l (go W e)).trans (cr_it_r st), wf, ?_⟩
          unfold f_X7_syntaxError_b45
          rw [z2, if_neg (by decide), z1, sp_er_r hit, if_neg hl, if_neg hc]
theorem cr_synC (F : Nat) (hF : F = 90) {V : cr_Hp} {L : Nat} {T : Nat → Int32} (hT : cr_TX V L T) : ∃ W, f_X7_syntaxError V = some (sp_er L T F 0, W) ∧ ∀ c, c ≠ 156 → W c = V c := by
  have hL := hT.1.1
  unfold f_X7_syntaxError f_X1_start
  rw [cr_lt_e, cr_lt_e, cr_bd_some]
  obtain ⟨V1, eV1⟩ : ∃ V1, V1 = cr_pt (cr_pt V 156 1 (0 : Int32)) 156 2 (0 : Int32) := ⟨_, rfl⟩
  have Q1 : cr_Q V V1 0 0 := by
    rw [eV1]
    exact ⟨fun c hc => by rw [cr_pt_ne hc, cr_pt_ne hc], by rw [cr_pv, if_neg (by omega), cr_pv, if_pos ⟨rfl, rfl⟩]; rfl, by rw [cr_pv, if_pos ⟨rfl, rfl⟩]; rfl, by omega⟩
  rw [← eV1]
  unfold f_X1_readItem
  rw [Q1.2.1, if_pos (by decide)]
  obtain ⟨W, e, wf, wo⟩ := cr_item13 hT Q1 (by omega)
  obtain ⟨W2, e2, x1, x2⟩ := cr_serC hT F 0 1 cr_FU W wf wo (by omega) (by omega) (by omega) (show F ≤ 100000 by omega)
  rw [e, cr_bd_some, show cr_it (fun (q : Int32 × cr_Hp) => f_X7_syntaxError_l16 q.1 q.2) cr_FU ((1 : Int32), W) = some W2 from e2, cr_bd_some, x2]
  exact ⟨W2, rfl, x1⟩
/-- the model's search -/
theorem cr_serM {V0 : cr_Hp} {L : Nat} {T : Nat → Int32} (hT : cr_MX V0 L T) : ∀ (f q fuel : Nat) (V : cr_Hp), cr_N V0 V q → L - q < f → q ≤ L → f ≤ fuel → ∃ z W, cr_it (fun (q : cr_Hp) => f_X8_findError_l5 q) fuel V = some z ∧ (cr_sm (fun (V_e5_12 : cr_Hp) => some ((V_e5_12 159 15), V_e5_12)) (cr_sm (fun (V_e5_28 : cr_Hp) => some ((-1006 : Int32), V_e5_28)) (fun (V_e5_41 : cr_Hp) => some ((V_e5_41 159 15), V_e5_41)))) z = some (sp_er L T f q, W) ∧ (∀ c, c ≠ 159 → W c = V0 c) ∧ ∀ t, t < 15 → W 159 t = V0 159 t
  | 0, q, fuel, V, _, hf, _, _ => by omega
  | f + 1, q, 0, V, _, hf, _, hu => by omega
  | f + 1, q, fuel + 1, V, hN, hf, hq, hu => by
    have hL := hT.1.1
    obtain ⟨r, W, e, N1, O1⟩ := cr_mitem hT hN hq
    rcases hit : sp_it L T q with q' | ⟨g, x, y, a, o, q'⟩
    · obtain ⟨w1, w2⟩ := O1.1 q' hit
      refine ⟨.inl W, W, cr_it_r (f := fun (q : cr_Hp) => f_X8_findError_l5 q) (s := V) ?_, ?_, N1.1, N1.2.1⟩
      · show f_X8_findError_l5 V = _
        unfold f_X8_findError_l5
        rw [e, cr_b2_some, if_pos w1]
      · rw [cr_sm_l, w2, sp_er_l hit]
    · obtain ⟨w1, w2, -⟩ := O1.2 g x y a o q' hit
      obtain ⟨n1, n2⟩ := sp_it_end hit
      have e5 : W 159 5 = nI L := (N1.2.1 5 (by omega)).trans hT.2.1
      have hoq : sp_oq (sp_it L T q) = q' := by rw [hit]; rfl
      rw [hoq] at N1
      by_cases hl : q' = L
      · refine ⟨.inr (.inl W), W, cr_it_r (f := fun (q : cr_Hp) => f_X8_findError_l5 q) (s := V) ?_, ?_, N1.1, N1.2.1⟩
        · show f_X8_findError_l5 V = _
          unfold f_X8_findError_l5
          rw [e, cr_b2_some, w1, if_neg (by decide), w2, e5, hl, if_pos rfl]
        · rw [cr_sm_r, cr_sm_l, sp_er_r hit, if_pos hl]
      · obtain ⟨y1, y2⟩ := cr_next1 (z := 59) hT N1 (by omega) (by omega)
        by_cases hc : sp_c L T q' = 59
        · obtain ⟨W2, e2, N2, -⟩ := y1 hc
          have : q' < L := by omega
          obtain ⟨z, W3, e3, x1, x2, x3⟩ := cr_serM hT f (q' + 1) fuel W2 N2 (by omega) (by omega) (by omega)
          refine ⟨z, W3, (cr_it_l (f := fun (q : cr_Hp) => f_X8_findError_l5 q) (s := V) ?_).trans e3, ?_, x2, x3⟩
          · show f_X8_findError_l5 V = _
            unfold f_X8_findError_l5
            rw [e, cr_b2_some, w1, if_neg (by decide), w2, e5, if_neg (fun h => hl ((nI_eq (by omega) (by omega)).mp h)), show f_X8_isNext (59 : Int32) W = some (1, W2) from e2, cr_b2_some, if_neg (by decide)]
          · rw [sp_er_r hit, if_neg hl, if_pos hc]
            exact x1
        · obtain ⟨W2, e2, N2, -⟩ := y2 hc
          refine ⟨.inr (.inr W2), W2, cr_it_r (f := fun (q : cr_Hp) => f_X8_findError_l5 q) (s := V) ?_, ?_, N2.1, N2.2.1⟩
          · show f_X8_findError_l5 V = _
            unfold f_X8_findError_l5
            rw [e, cr_b2_some, w1, if_neg (by decide), w2, e5, if_neg (fun h => hl ((nI_eq (by omega) (by omega)).mp h)), show f_X8_isNext (59 : Int32) W = some (0, W2) from e2, cr_b2_some, if_pos rfl]
          · rw [cr_sm_r, cr_sm_r, sp_er_r hit, if_neg hl, if_neg hc, N2.2.2.1]
theorem cr_synM (F : Nat) (hF : F = 90) {V : cr_Hp} {L : Nat} {T : Nat → Int32} (hT : cr_MX V L T) : ∃ W, f_X8_findError V = some (sp_er L T F 0, W) ∧ (∀ c, c ≠ 159 → W c = V c) ∧ ∀ t, t < 15 → W 159 t = V 159 t := by
  have hL := hT.1.1
  unfold f_X8_findError
  rw [cr_lt_e]
  have N1 : cr_N V (cr_pt V 159 15 (0 : Int32)) 0 := ⟨fun c hc => by rw [cr_pt_ne hc], fun s hs => by rw [cr_pv, if_neg (by omega)], by rw [cr_pv, if_pos ⟨rfl, rfl⟩]; rfl, by omega⟩
  obtain ⟨z, W, e, x1, x2, x3⟩ := cr_serM hT F 0 cr_FU _ N1 (by omega) (by omega) (show F ≤ 100000 by omega)
  rw [e, cr_bd_some, x1]
  exact ⟨W, rfl, x2, x3⟩
theorem cr_IC_x {V W : cr_Hp} {b : Nat → Int32} {n k m L : Nat} {H : Nat → Nat → Int32} {T : Nat → Int32} (h : cr_IC V b n k m H L T) (hf : ∀ c, c ≠ 156 → W c = V c) : cr_IC W b n k m H L T := cr_IC_b h h.1 (cr_C_fr h.1.1 h.1.2.1 h.2.1 (fun c c1 c2 => hf c (by omega))) (fun c c1 c2 c3 => hf c (by omega)) (fun j hj => by rw [hf _ (by omega)]; exact h.2.2.1 19 (by omega) j hj)
theorem cr_TX_of {V : cr_Hp} {b : Nat → Int32} {n k m L : Nat} {H : Nat → Nat → Int32} {T : Nat → Int32} (h : cr_IC V b n k m H L T) : cr_TX V L T := ⟨h.2.2.2.2.1, h.2.2.2.2.2.1, h.2.2.2.2.2.2⟩
theorem cr_MX_of {V : cr_Hp} {b : Nat → Int32} {m L : Nat} {H : Nat → Nat → Int32} {T : Nat → Int32} (hT : cr_Tx L T) (h : cr_IM V b m H L T) : cr_MX V L T := ⟨hT, h.2.2.2.1, h.2.2.2.2.1⟩
theorem cr_m_syn {V : cr_Hp} (h : cr_I V) : ∃ r V1 V2, f_X7_syntaxError V = some (r, V1) ∧ f_X8_syntaxError V1 = some (r, V2) ∧ cr_I V2 := by
  obtain ⟨b, n, k, m, H, L, T, hI, hM⟩ := h
  obtain ⟨F, hF⟩ : ∃ F, F = 90 := ⟨_, rfl⟩
  obtain ⟨W1, e1, f1⟩ := cr_synC F hF (cr_TX_of hI)
  have hM1 := cr_IM_fr hM (W := W1) (fun c hc => f1 c (by omega))
  obtain ⟨W2, e2, f2, f9⟩ := cr_synM F hF (cr_MX_of hI.2.2.2.2.1 hM1)
  refine ⟨_, W1, W2, e1, ?_, ⟨b, n, k, m, H, L, T, cr_IC_fr (cr_IC_x hI f1) (fun c hc => f2 c (by omega)), cr_IM_c hM1 (fun c _ c1 _ _ _ => f2 c c1) (fun t ht => f9 t (by omega)) (by rw [f2 _ (by omega)]; exact hM1.1)⟩⟩
  unfold f_X8_syntaxError
  rw [e2, cr_b2_some]
