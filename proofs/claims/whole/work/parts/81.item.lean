/-! items of the text: what is read at a place; the class -/
def sp_c (L : Nat) (T : Nat → Int32) (q : Nat) : Nat := if q < L then (T q).toNatClampNeg else 200
def sp_dg (L : Nat) (T : Nat → Int32) (q : Nat) : Nat := if 48 ≤ sp_c L T q ∧ sp_c L T q ≤ 57 then sp_c L T q - 48 else 99
abbrev sp_bad (L : Nat) (T : Nat → Int32) (lo hi q : Nat) : Prop := sp_dg L T q < lo ∨ hi < sp_dg L T q
abbrev sp_two (L : Nat) (T : Nat → Int32) (hi q : Nat) : Prop := 0 < sp_dg L T q ∧ sp_dg L T (q + 1) < 10 ∧ 10 * sp_dg L T q + sp_dg L T (q + 1) ≤ hi
def sp_v (L : Nat) (T : Nat → Int32) (hi q : Nat) : Nat := if sp_two L T hi q then 10 * sp_dg L T q + sp_dg L T (q + 1) else sp_dg L T q
def sp_e (L : Nat) (T : Nat → Int32) (hi q : Nat) : Nat := if sp_two L T hi q then q + 2 else q + 1
abbrev sp_O : Type := Nat ⊕ (Bool × Nat × Nat × Nat × Nat × Nat)
def sp_iR (L : Nat) (T : Nat → Int32) (x y q2 : Nat) : sp_O :=
  if ¬ sp_c L T q2 = 58 then .inl q2 else if sp_bad L T 1 15 (q2 + 1) then .inl (q2 + 1) else .inr (true, x, y, sp_v L T 15 (q2 + 1), 0, sp_e L T 15 (q2 + 1))
def sp_iM2 (L : Nat) (T : Nat → Int32) (x y s q3 : Nat) : sp_O :=
  if ¬ sp_c L T q3 = 112 then .inl q3 else if sp_bad L T 0 2 (q3 + 1) then .inl (q3 + 1) else .inr (false, x, y, s, sp_v L T 2 (q3 + 1), sp_e L T 2 (q3 + 1))
def sp_iM (L : Nat) (T : Nat → Int32) (x y q2 : Nat) : sp_O :=
  if ¬ sp_c L T q2 = 115 then .inl q2 else if sp_bad L T 1 3 (q2 + 1) then .inl (q2 + 1) else sp_iM2 L T x y (sp_v L T 3 (q2 + 1)) (sp_e L T 3 (q2 + 1))
def sp_iY (L : Nat) (T : Nat → Int32) (q x q1 : Nat) : sp_O :=
  if ¬ sp_c L T q1 = 44 then .inl q1 else if sp_bad L T 0 30 (q1 + 1) then .inl (q1 + 1) else
    if sp_c L T q = 114 then sp_iR L T x (sp_v L T 30 (q1 + 1)) (sp_e L T 30 (q1 + 1)) else sp_iM L T x (sp_v L T 30 (q1 + 1)) (sp_e L T 30 (q1 + 1))
def sp_it (L : Nat) (T : Nat → Int32) (q : Nat) : sp_O :=
  if ¬ (sp_c L T q = 114 ∨ sp_c L T q = 109) then .inl q else if sp_bad L T 0 30 (q + 1) then .inl (q + 1) else sp_iY L T q (sp_v L T 30 (q + 1)) (sp_e L T 30 (q + 1))
theorem sp_c_lt {L q : Nat} {T : Nat → Int32} (hT : cr_Tx L T) : sp_c L T q ≤ 126 ∨ sp_c L T q = 200 := by
  unfold sp_c
  by_cases h : q < L
  · obtain ⟨c, c1, c2, c3⟩ := hT.2 q h
    rw [if_pos h, c3, nI_clamp (by omega)]; exact Or.inl c2
  · rw [if_neg h]; exact Or.inr rfl
theorem sp_c_s {L q : Nat} {T : Nat → Int32} (hT : cr_Tx L T) (h : q < L) : T q = nI (sp_c L T q) ∧ sp_c L T q ≤ 126 := by
  obtain ⟨c, c1, c2, c3⟩ := hT.2 q h
  unfold sp_c
  rw [if_pos h, c3, nI_clamp (by omega)]
  exact ⟨rfl, c2⟩
theorem sp_c_n {L q : Nat} {T : Nat → Int32} (h : ¬ q < L) : sp_c L T q = 200 := if_neg h
theorem sp_c_in {L q : Nat} {T : Nat → Int32} (h : sp_c L T q < 200) : q < L := by
  rcases Nat.lt_or_ge q L with h2 | h2
  · exact h2
  · rw [sp_c_n (by omega)] at h; omega
theorem sp_dg_lt {L q : Nat} {T : Nat → Int32} : sp_dg L T q ≤ 9 ∨ sp_dg L T q = 99 := by
  unfold sp_dg
  by_cases h : 48 ≤ sp_c L T q ∧ sp_c L T q ≤ 57
  · rw [if_pos h]; exact Or.inl (by omega)
  · rw [if_neg h]; exact Or.inr rfl
theorem sp_dg_in {L q : Nat} {T : Nat → Int32} (h : sp_dg L T q < 99) : q < L := by
  unfold sp_dg at h
  by_cases hc : 48 ≤ sp_c L T q ∧ sp_c L T q ≤ 57
  · exact sp_c_in (T := T) (by omega)
  · rw [if_neg hc] at h; omega
theorem sp_e_le {L hi q : Nat} {T : Nat → Int32} (h : sp_dg L T q < 99) : q < sp_e L T hi q ∧ sp_e L T hi q ≤ L := by
  unfold sp_e
  have h1 := sp_dg_in h
  by_cases hc : sp_two L T hi q
  · rw [if_pos hc]
    have h2 := sp_dg_in (L := L) (T := T) (q := q + 1) (by have := hc.2.1; omega)
    omega
  · rw [if_neg hc]; omega
theorem sp_bad_n {L lo hi q : Nat} {T : Nat → Int32} (h : ¬ sp_bad L T lo hi q) (hh : hi < 99) : sp_dg L T q < 99 := by
  rcases Nat.lt_or_ge (sp_dg L T q) 99 with h1 | h1
  · exact h1
  · exact absurd (Or.inr (by omega)) h
/-- an item that was read ends behind its start, in the text -/
theorem sp_it_end {L q : Nat} {T : Nat → Int32} {g : Bool} {x y a o q' : Nat} (h : sp_it L T q = .inr (g, x, y, a, o, q')) : q < q' ∧ q' ≤ L := by
  unfold sp_it at h
  by_cases h1 : ¬ (sp_c L T q = 114 ∨ sp_c L T q = 109)
  · rw [if_pos h1] at h; cases h
  · rw [if_neg h1] at h
    by_cases h2 : sp_bad L T 0 30 (q + 1)
    · rw [if_pos h2] at h; cases h
    · rw [if_neg h2] at h
      have e1 := sp_e_le (hi := 30) (sp_bad_n h2 (by omega))
      unfold sp_iY at h
      by_cases h3 : ¬ sp_c L T (sp_e L T 30 (q + 1)) = 44
      · rw [if_pos h3] at h; cases h
      · rw [if_neg h3] at h
        by_cases h4 : sp_bad L T 0 30 (sp_e L T 30 (q + 1) + 1)
        · rw [if_pos h4] at h; cases h
        · rw [if_neg h4] at h
          have e2 := sp_e_le (hi := 30) (sp_bad_n h4 (by omega))
          by_cases h5 : sp_c L T q = 114
          · rw [if_pos h5] at h
            unfold sp_iR at h
            by_cases h6 : ¬ sp_c L T (sp_e L T 30 (sp_e L T 30 (q + 1) + 1)) = 58
            · rw [if_pos h6] at h; cases h
            · rw [if_neg h6] at h
              by_cases h7 : sp_bad L T 1 15 (sp_e L T 30 (sp_e L T 30 (q + 1) + 1) + 1)
              · rw [if_pos h7] at h; cases h
              · rw [if_neg h7] at h
                have e3 := sp_e_le (hi := 15) (sp_bad_n h7 (by omega))
                cases h
                omega
          · rw [if_neg h5] at h
            unfold sp_iM at h
            by_cases h6 : ¬ sp_c L T (sp_e L T 30 (sp_e L T 30 (q + 1) + 1)) = 115
            · rw [if_pos h6] at h; cases h
            · rw [if_neg h6] at h
              by_cases h7 : sp_bad L T 1 3 (sp_e L T 30 (sp_e L T 30 (q + 1) + 1) + 1)
              · rw [if_pos h7] at h; cases h
              · rw [if_neg h7] at h
                have e3 := sp_e_le (hi := 3) (sp_bad_n h7 (by omega))
                unfold sp_iM2 at h
                by_cases h8 : ¬ sp_c L T (sp_e L T 3 (sp_e L T 30 (sp_e L T 30 (q + 1) + 1) + 1)) = 112
                · rw [if_pos h8] at h; cases h
                · rw [if_neg h8] at h
                  by_cases h9 : sp_bad L T 0 2 (sp_e L T 3 (sp_e L T 30 (sp_e L T 30 (q + 1) + 1) + 1) + 1)
                  · rw [if_pos h9] at h; cases h
                  · rw [if_neg h9] at h
                    have e4 := sp_e_le (hi := 2) (sp_bad_n h9 (by omega))
                    cases h
                    omega
/-- the class's reading, step by step -/
def cr_TX (V : cr_Hp) (L : Nat) (T : Nat → Int32) : Prop := cr_Tx L T ∧ V 157 1 = nI L ∧ ∀ i, i < L → V 158 i = T i
def cr_Q (V0 V : cr_Hp) (q e : Nat) : Prop := (∀ c, c ≠ 156 → V c = V0 c) ∧ V 156 1 = nI q ∧ V 156 2 = nI e ∧ q ≤ 90
theorem cr_sign {V : cr_Hp} {L q : Nat} {T : Nat → Int32} (hT : cr_TX V L T) (hq : q ≤ 90) : f_X6_signAt (nI q) V = some (if q < L then nI (sp_c L T q) else -1) := by
  have hL := hT.1.1
  unfold f_X6_signAt
  rw [if_neg (cr_nn (by omega)), hT.2.1]
  by_cases h : q < L
  · rw [if_neg (nI_ge h (by omega)), cr_L80, if_pos (nI_lt (by omega) (by decide)), cr_gd_e (cr_ix_nI (by omega) (by decide)), nI_clamp (by omega), if_pos h, hT.2.2 q h]
    exact congrArg some (sp_c_s hT.1 h).1
  · rw [if_pos (nI_le (by omega) (by omega)), if_neg h]
theorem cr_m1_ne' {v : Nat} (h : v ≤ 126) : ¬ nI v = (-1 : Int32) := by
  intro e
  have := congrArg Int32.toInt e
  rw [nI_toInt (by omega)] at this
  have h2 : (-1 : Int32).toInt = -1 := by decide
  omega
theorem cr_sign_eq {L q z : Nat} {T : Nat → Int32} (hT : cr_Tx L T) (hz : z ≤ 126) : ((if q < L then nI (sp_c L T q) else (-1 : Int32)) = nI z) ↔ sp_c L T q = z := by
  by_cases h : q < L
  · rw [if_pos h, nI_eq (by have := (sp_c_s hT h).2; omega) (by omega)]
  · rw [if_neg h, sp_c_n h]
    constructor
    · intro e; exact absurd e.symm (cr_m1_ne' hz)
    · intro e; omega
theorem cr_digit {V : cr_Hp} {L q : Nat} {T : Nat → Int32} (hT : cr_TX V L T) (hq : q ≤ 90) : f_X1_digitAt (nI q) V = some (if sp_dg L T q = 99 then -1 else nI (sp_dg L T q)) := by
  unfold f_X1_digitAt
  rw [cr_sign hT hq, cr_bd_some]
  by_cases h : q < L
  · rw [if_pos h]
    have h126 := (sp_c_s hT.1 h).2
    unfold sp_dg
    by_cases h1 : sp_c L T q < 48
    · rw [cr_L48, if_pos (nI_lt h1 (by decide)), if_neg (show ¬ (48 ≤ sp_c L T q ∧ sp_c L T q ≤ 57) by omega), if_pos rfl]
    · by_cases h2 : sp_c L T q ≤ 57
      · rw [cr_L48, if_neg (nI_nlt (by omega) (by omega)), cr_L57, if_pos (nI_le h2 (by decide)), if_pos (show 48 ≤ sp_c L T q ∧ sp_c L T q ≤ 57 by omega), if_neg (by omega), pk_sub (by omega)]
      · rw [cr_L48, if_neg (nI_nlt (by omega) (by omega)), cr_L57, if_neg (nI_ge (by omega) (by omega)), if_neg (show ¬ (48 ≤ sp_c L T q ∧ sp_c L T q ≤ 57) by omega), if_pos rfl]
  · rw [if_neg h]
    have e : sp_dg L T q = 99 := by
      rcases sp_dg_lt (L := L) (T := T) (q := q) with h1 | h1
      · exact absurd (sp_dg_in (T := T) (by omega)) h
      · exact h1
    rw [if_pos (by decide), if_pos e]
theorem cr_TX_fr {V W : cr_Hp} {L : Nat} {T : Nat → Int32} (hT : cr_TX V L T) (h : ∀ c, c ≠ 156 → W c = V c) : cr_TX W L T := ⟨hT.1, by rw [h _ (by omega)]; exact hT.2.1, fun i hi => by rw [h _ (by omega)]; exact hT.2.2 i hi⟩
theorem cr_take1 {V0 V : cr_Hp} {L q e z : Nat} {T : Nat → Int32} (hT : cr_TX V0 L T) (hQ : cr_Q V0 V q e) (he : e = 0 ∨ e = 1) (hz : z ≤ 126) (hq : q ≤ 80) : ∃ W q' e', f_X1_take (nI z) V = some W ∧ cr_Q V0 W q' e' ∧ (e' = 0 ∨ e' = 1) ∧ (∀ t, 3 ≤ t → W 156 t = V 156 t) ∧ (e = 1 → q' = q ∧ e' = 1) ∧ (e = 0 → sp_c L T q = z → q' = q + 1 ∧ e' = 0) ∧ (e = 0 → ¬ sp_c L T q = z → q' = q ∧ e' = 1) := by
  obtain ⟨qf, q1, q2, q90⟩ := hQ
  have hTV := cr_TX_fr hT qf
  unfold f_X1_take
  rcases he with rfl | rfl
  · rw [q2, if_pos (by decide), q1, cr_sign hTV q90, cr_bd_some]
    by_cases hc : sp_c L T q = z
    · rw [if_pos ((cr_sign_eq hT.1 hz).mpr hc), cr_lt_e, cr_1]
      exact ⟨_, q + 1, 0, rfl, ⟨fun c hc => by rw [cr_pt_ne hc]; exact qf c hc, by rw [cr_pv, if_pos ⟨rfl, rfl⟩], by rw [cr_pv, if_neg (by omega)]; exact q2, by omega⟩, Or.inl rfl, fun t ht => by rw [cr_pv, if_neg (by omega)], fun h => absurd h (by omega), fun _ _ => ⟨rfl, rfl⟩, fun _ h => absurd hc h⟩
    · rw [if_neg (fun h => hc ((cr_sign_eq hT.1 hz).mp h)), cr_lt_e]
      exact ⟨_, q, 1, rfl, ⟨fun c hc => by rw [cr_pt_ne hc]; exact qf c hc, by rw [cr_pv, if_neg (by omega)]; exact q1, by rw [cr_pv, if_pos ⟨rfl, rfl⟩]; rfl, q90⟩, Or.inr rfl, fun t ht => by rw [cr_pv, if_neg (by omega)], fun h => absurd h (by omega), fun _ h => absurd h hc, fun _ _ => ⟨rfl, rfl⟩⟩
  · rw [q2, if_neg (by decide)]
    exact ⟨V, q, 1, rfl, ⟨qf, q1, q2, q90⟩, Or.inr rfl, fun _ _ => rfl, fun _ => ⟨rfl, rfl⟩, fun h => absurd h (by omega), fun h => absurd h (by omega)⟩
theorem cr_num1 {V0 V : cr_Hp} {L q e lo hi : Nat} {T : Nat → Int32} (hT : cr_TX V0 L T) (hQ : cr_Q V0 V q e) (he : e = 0 ∨ e = 1) (hlo : lo ≤ 1) (hhi : hi ≤ 30) (hq : q ≤ 81) : ∃ v W q' e', f_X1_takeNumber (nI lo) (nI hi) V = some (v, W) ∧ cr_Q V0 W q' e' ∧ (e' = 0 ∨ e' = 1) ∧ (∀ t, 3 ≤ t → W 156 t = V 156 t) ∧ (e = 1 → q' = q ∧ e' = 1) ∧ (e = 0 → sp_bad L T lo hi q → q' = q ∧ e' = 1) ∧ (e = 0 → ¬ sp_bad L T lo hi q → q' = sp_e L T hi q ∧ e' = 0 ∧ v = nI (sp_v L T hi q)) := by
  obtain ⟨qf, q1, q2, q90⟩ := hQ
  have hTV := cr_TX_fr hT qf
  have failW : cr_Q V0 (cr_pt V 156 2 (1 : Int32)) q 1 ∧ ∀ t, 3 ≤ t → cr_pt V 156 2 (1 : Int32) 156 t = V 156 t := ⟨⟨fun c hc => by rw [cr_pt_ne hc]; exact qf c hc, by rw [cr_pv, if_neg (by omega)]; exact q1, by rw [cr_pv, if_pos ⟨rfl, rfl⟩]; rfl, q90⟩, fun t ht => by rw [cr_pv, if_neg (by omega)]⟩
  unfold f_X1_takeNumber
  rw [q1, cr_digit hTV q90, cr_bd_some, q2]
  rcases he with rfl | rfl
  · rw [if_pos (show nI 0 = (0 : Int32) from rfl)]
    by_cases hb : sp_bad L T lo hi q
    · have res : ∃ v W q' e', (some ((nI lo), cr_pt V 156 2 (1 : Int32)) : Option (Int32 × cr_Hp)) = some (v, W) ∧ cr_Q V0 W q' e' ∧ (e' = 0 ∨ e' = 1) ∧ (∀ t, 3 ≤ t → W 156 t = V 156 t) ∧ ((0 : Nat) = 1 → q' = q ∧ e' = 1) ∧ ((0 : Nat) = 0 → sp_bad L T lo hi q → q' = q ∧ e' = 1) ∧ ((0 : Nat) = 0 → ¬ sp_bad L T lo hi q → q' = sp_e L T hi q ∧ e' = 0 ∧ v = nI (sp_v L T hi q)) := ⟨_, _, q, 1, rfl, failW.1, Or.inr rfl, failW.2, fun h => absurd h (by omega), fun _ _ => ⟨rfl, rfl⟩, fun _ h => absurd hb h⟩
      rcases sp_dg_lt (L := L) (T := T) (q := q) with h9 | h99
      · rw [if_neg (show ¬ sp_dg L T q = 99 by omega)]
        by_cases hl : sp_dg L T q < lo
        · rw [if_pos (nI_lt hl (by omega)), cr_lt_e]; exact res
        · rw [if_neg (nI_nlt (by omega) (by omega)), if_neg (nI_ge (by have := hb; omega) (by omega)), cr_lt_e]; exact res
      · rw [if_pos h99]
        by_cases hl : (-1 : Int32) < nI lo
        · rw [if_pos hl, cr_lt_e]; exact res
        · exfalso
          apply hl
          rw [Int32.lt_iff_toInt_lt, nI_toInt (by omega)]
          have h2 : (-1 : Int32).toInt = -1 := by decide
          omega
    · have d99 := sp_bad_n hb (by omega)
      have d9 : sp_dg L T q ≤ 9 := by
        rcases sp_dg_lt (L := L) (T := T) (q := q) with h9 | h99
        · exact h9
        · omega
      have hqL := sp_dg_in d99
      have hL := hT.1.1
      have dl : lo ≤ sp_dg L T q ∧ sp_dg L T q ≤ hi := by
        constructor
        · rcases Nat.lt_or_ge (sp_dg L T q) lo with h | h
          · exact absurd (Or.inl h) hb
          · exact h
        · rcases Nat.lt_or_ge hi (sp_dg L T q) with h | h
          · exact absurd (Or.inr h) hb
          · exact h
      rw [if_neg (show ¬ sp_dg L T q = 99 by omega), if_neg (nI_nlt dl.1 (by omega)), if_pos (nI_le dl.2 (by omega)), cr_lt_e, cr_1]
      obtain ⟨V1, eV1⟩ : ∃ V1, V1 = cr_pt V 156 1 (nI (q + 1)) := ⟨_, rfl⟩
      rw [← eV1]
      have p1 : V1 156 1 = nI (q + 1) := by rw [eV1, cr_pv, if_pos ⟨rfl, rfl⟩]
      have pf : ∀ c, c ≠ 156 → V1 c = V0 c := fun c hc => by rw [eV1, cr_pt_ne hc]; exact qf c hc
      have po : ∀ t, t ≠ 1 → V1 156 t = V 156 t := fun t ht => by rw [eV1, cr_pv, if_neg (by omega)]
      have hT1 := cr_TX_fr hT pf
      have stop : ∀ W : cr_Hp, (∀ c, c ≠ 156 → W c = V0 c) → ∀ (i v q2 : Nat), i < 80 → v ≤ 99 → q2 ≤ 90 → W 156 1 = nI q2 → (v = 0 ∨ 10 ≤ sp_dg L T q2 ∨ hi < 10 * v + sp_dg L T q2) → ∃ z, f_X1_takeNumber_l46 (nI hi) (nI v) (nI i) W = some (.inr z) ∧ (z = .inl (nI v, W) ∨ z = .inr (nI v, W)) := by
        intro W wf i v q2 hi80 hv hq2 w1 hcase
        have hTW := cr_TX_fr hT wf
        unfold f_X1_takeNumber_l46
        rw [cr_L80, if_neg (nI_ge hi80 (by decide)), w1, cr_digit hTW hq2, cr_bd_some]
        by_cases hv0 : v = 0
        · rw [if_pos (show nI v ≤ 0 by rw [hv0]; decide)]; exact ⟨_, rfl, Or.inr rfl⟩
        · rw [if_neg (nI_nle (by omega) (by omega))]
          rcases sp_dg_lt (L := L) (T := T) (q := q2) with h9 | h99
          · rw [if_neg (show ¬ sp_dg L T q2 = 99 by omega), if_neg (cr_nn (by omega)), cr_L10, pk_mul, nI_add, if_neg (nI_ge (by omega) (by omega))]
            exact ⟨_, rfl, Or.inl rfl⟩
          · rw [if_pos h99, if_pos (by decide)]; exact ⟨_, rfl, Or.inr rfl⟩
      have endW : ∀ (v : Int32) (W : cr_Hp) (z : (Int32 × cr_Hp) ⊕ (Int32 × cr_Hp)), (z = .inl (v, W) ∨ z = .inr (v, W)) → (cr_sm (cr_u2 (fun (u3_46_83 : Int32) (V_e46_83 : cr_Hp) => some (u3_46_83, V_e46_83))) (cr_u2 (fun (u3_46_110 : Int32) (V_e46_110 : cr_Hp) => some (u3_46_110, V_e46_110)))) z = some (v, W) := by
        intro v W z hz
        rcases hz with rfl | rfl <;> rfl
      by_cases h2 : sp_two L T hi q
      · obtain ⟨a1, a2, a3⟩ := h2
        have e2 : sp_e L T hi q = q + 2 := if_pos ⟨a1, a2, a3⟩
        have v2 : sp_v L T hi q = 10 * sp_dg L T q + sp_dg L T (q + 1) := if_pos ⟨a1, a2, a3⟩
        obtain ⟨V2, eV2⟩ : ∃ V2, V2 = cr_pt V1 156 1 (nI (q + 2)) := ⟨_, rfl⟩
        have r1 : V2 156 1 = nI (q + 2) := by rw [eV2, cr_pv, if_pos ⟨rfl, rfl⟩]
        have rf : ∀ c, c ≠ 156 → V2 c = V0 c := fun c hc => by rw [eV2, cr_pt_ne hc]; exact pf c hc
        have ro : ∀ t, t ≠ 1 → V2 156 t = V 156 t := fun t ht => by rw [eV2, cr_pv, if_neg (by omega)]; exact po t ht
        have s1 : f_X1_takeNumber_l46 (nI hi) (nI (sp_dg L T q)) (nI 0) V1 = some (.inl (nI (10 * sp_dg L T q + sp_dg L T (q + 1)), nI 1, V2)) := by
          unfold f_X1_takeNumber_l46
          rw [if_neg (by decide), if_neg (nI_nle a1 (by omega)), p1, cr_digit hT1 (by omega), cr_bd_some, if_neg (show ¬ sp_dg L T (q + 1) = 99 by omega), if_neg (cr_nn (by omega)), cr_L10, pk_mul, nI_add, show sp_dg L T q * 10 + sp_dg L T (q + 1) = 10 * sp_dg L T q + sp_dg L T (q + 1) by omega, if_pos (nI_le a3 (by omega)), cr_lt_e, cr_1, cr_1, show q + 1 + 1 = q + 2 from rfl, ← eV2]
        obtain ⟨z, z1, z2⟩ := stop V2 rf 1 (10 * sp_dg L T q + sp_dg L T (q + 1)) (q + 2) (by omega) (by omega) (by omega) r1 (Or.inr (Or.inr (by omega)))
        have hit : cr_it (fun (q : Int32 × Int32 × cr_Hp) => f_X1_takeNumber_l46 (nI hi) q.1 q.2.1 q.2.2) cr_FU (nI (sp_dg L T q), (0 : Int32), V1) = some z := (cr_it_l (fuel := 99999) (f := fun (q : Int32 × Int32 × cr_Hp) => f_X1_takeNumber_l46 (nI hi) q.1 q.2.1 q.2.2) (s := (nI (sp_dg L T q), (0 : Int32), V1)) s1).trans (cr_it_r (fuel := 99998) (f := fun (q : Int32 × Int32 × cr_Hp) => f_X1_takeNumber_l46 (nI hi) q.1 q.2.1 q.2.2) z1)
        rw [hit, cr_bd_some, endW _ _ _ z2]
        exact ⟨_, V2, q + 2, 0, rfl, ⟨rf, r1, (ro 2 (by omega)).trans q2, by omega⟩, Or.inl rfl, fun t ht => ro t (by omega), fun h => absurd h (by omega), fun _ h => absurd h hb, fun _ _ => ⟨e2.symm, rfl, by rw [v2]⟩⟩
      · have e2 : sp_e L T hi q = q + 1 := if_neg h2
        have v2 : sp_v L T hi q = sp_dg L T q := if_neg h2
        obtain ⟨z, z1, z2⟩ := stop V1 pf 0 (sp_dg L T q) (q + 1) (by omega) (by omega) (by omega) p1 (by
          rcases Nat.eq_zero_or_pos (sp_dg L T q) with h | h
          · exact Or.inl h
          · rcases Nat.lt_or_ge (sp_dg L T (q + 1)) 10 with h3 | h3
            · rcases Nat.lt_or_ge hi (10 * sp_dg L T q + sp_dg L T (q + 1)) with h4 | h4
              · exact Or.inr (Or.inr h4)
              · exact absurd ⟨h, h3, h4⟩ h2
            · exact Or.inr (Or.inl h3))
        have hit : cr_it (fun (q : Int32 × Int32 × cr_Hp) => f_X1_takeNumber_l46 (nI hi) q.1 q.2.1 q.2.2) cr_FU (nI (sp_dg L T q), (0 : Int32), V1) = some z := cr_it_r (fuel := 99999) (f := fun (q : Int32 × Int32 × cr_Hp) => f_X1_takeNumber_l46 (nI hi) q.1 q.2.1 q.2.2) (s := (nI (sp_dg L T q), (0 : Int32), V1)) z1
        rw [hit, cr_bd_some, endW _ _ _ z2]
        exact ⟨_, V1, q + 1, 0, rfl, ⟨pf, p1, (po 2 (by omega)).trans q2, by omega⟩, Or.inl rfl, fun t ht => po t (by omega), fun h => absurd h (by omega), fun _ h => absurd h hb, fun _ _ => ⟨e2.symm, rfl, by rw [v2]⟩⟩
  · rw [if_neg (by decide), cr_lt_e]
    exact ⟨_, _, q, 1, rfl, failW.1, Or.inr rfl, failW.2, fun _ => ⟨rfl, rfl⟩, fun h => absurd h (by omega), fun h => absurd h (by omega)⟩
