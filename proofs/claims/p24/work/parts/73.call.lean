/-! the class's roll to its end -/
theorem sp_rs_mv {b : Nat → Int32} {m k : Nat} {x y u v : Int32} (hm : m < 12) : sp_rs (sp_mv b m x y) u v k = sp_rs b u v k := sp_rs_co (fun t ht => sp_mv_o (by omega) (by omega)) k
theorem sp_step_m {n k m S h : Nat} {dx dy w : Int32} {ht : Nat → Bool} {b : Nat → Int32} (hat : sp_at b (b (8 + 5 * m) + sp_w (b (8 + 5 * m)) dx) (b (8 + 5 * m + 1) + sp_w (b (8 + 5 * m + 1)) dy) n = 99) : sp_step n k (m, dx, dy, S, h, w, ht, b) = (m, sp_w (b (8 + 5 * m)) dx, sp_w (b (8 + 5 * m + 1)) dy, S - 1 - sp_ct b k (b (8 + 5 * m)) (b (8 + 5 * m + 1)) (b (8 + 5 * m) + sp_w (b (8 + 5 * m)) dx) (b (8 + 5 * m + 1) + sp_w (b (8 + 5 * m + 1)) dy), h, sp_wc (b (8 + 5 * m + 1)) dy (sp_wc (b (8 + 5 * m)) dx w), ht, sp_mv b m (b (8 + 5 * m) + sp_w (b (8 + 5 * m)) dx) (b (8 + 5 * m + 1) + sp_w (b (8 + 5 * m + 1)) dy)) := by
  show sp_mo n k m _ _ S h _ ht b = _
  unfold sp_mo
  rw [if_pos hat]
theorem sp_step_h {n k m S h : Nat} {dx dy w : Int32} {ht : Nat → Bool} {b : Nat → Int32} (hat : ¬ sp_at b (b (8 + 5 * m) + sp_w (b (8 + 5 * m)) dx) (b (8 + 5 * m + 1) + sp_w (b (8 + 5 * m + 1)) dy) n = 99) : sp_step n k (m, dx, dy, S, h, w, ht, b) = (sp_at b (b (8 + 5 * m) + sp_w (b (8 + 5 * m)) dx) (b (8 + 5 * m + 1) + sp_w (b (8 + 5 * m + 1)) dy) n, sp_w (b (8 + 5 * m)) dx, sp_w (b (8 + 5 * m + 1)) dy, min 40 (S * sp_sz b m / sp_sz b (sp_at b (b (8 + 5 * m) + sp_w (b (8 + 5 * m)) dx) (b (8 + 5 * m + 1) + sp_w (b (8 + 5 * m + 1)) dy) n)), h + 1, sp_wc (b (8 + 5 * m + 1)) dy (sp_wc (b (8 + 5 * m)) dx w), (fun i => i == sp_at b (b (8 + 5 * m) + sp_w (b (8 + 5 * m)) dx) (b (8 + 5 * m + 1) + sp_w (b (8 + 5 * m + 1)) dy) n || ht i), b) := by
  show sp_mo n k m _ _ S h _ ht b = _
  unfold sp_mo
  rw [if_neg hat]
theorem cr_it_l {S R : Type} {f : S → Option (S ⊕ R)} {fuel : Nat} {s s' : S} (h : f s = some (.inl s')) : cr_it f (fuel + 1) s = cr_it f fuel s' := by
  show (match f s with | none => none | some (.inl s') => cr_it f fuel s' | some (.inr r) => some r) = _
  rw [h]
theorem cr_it_r {S R : Type} {f : S → Option (S ⊕ R)} {fuel : Nat} {s : S} {r : R} (h : f s = some (.inr r)) : cr_it f (fuel + 1) s = some r := by
  show (match f s with | none => none | some (.inl s') => cr_it f fuel s' | some (.inr r) => some r) = _
  rw [h]
theorem cr_rth {a n k : Nat} {V0 : cr_Hp} {ra : Nat → Int32} (ha : cr_pg a) : ∀ (fuel S i m h : Nat) (dx dy w : Int32) (ht : Nat → Bool) (b : Nat → Int32) (V : cr_Hp), sp_K n k m dx dy S h b → cr_RC a V0 V n k ra dx dy S h w ht b → h < 60 → S + i ≤ 40 → S < fuel →
    (∃ dx' dy' w' b' V', cr_it (fun (q : Int32 × Int32 × cr_Hp) => f_X5_rollToHit_l16 a (a + 1 + 2 + m) q.1 q.2.1 q.2.2) fuel (sp_rs b (b (8 + 5 * m)) (b (8 + 5 * m + 1)) k, nI i, V) = some (.inr V') ∧ cr_RC a V0 V' n k ra dx' dy' 0 h w' ht b' ∧ sp_K n k m dx' dy' 0 h b' ∧ ∀ z, sp_E n k (m, dx', dy', 0, h, w', ht, b') z → sp_E n k (m, dx, dy, S, h, w, ht, b) z) ∨
    (∃ dx' dy' S' w' b' V' o, cr_it (fun (q : Int32 × Int32 × cr_Hp) => f_X5_rollToHit_l16 a (a + 1 + 2 + m) q.1 q.2.1 q.2.2) fuel (sp_rs b (b (8 + 5 * m)) (b (8 + 5 * m + 1)) k, nI i, V) = some (.inl (a + 1 + 2 + o, V')) ∧ cr_RC a V0 V' n k ra dx' dy' S' h w' ht b' ∧ sp_K n k m dx' dy' S' h b' ∧ o < n ∧ ∀ z, sp_E n k (o, dx', dy', min 40 (S' * sp_sz b' m / sp_sz b' o), h + 1, w', (fun i => i == o || ht i), b') z → sp_E n k (m, dx, dy, S, h, w, ht, b) z)
  | 0, S, i, m, h, dx, dy, w, ht, b, V, _, _, _, _, hf => by omega
  | fuel + 1, S, i, m, h, dx, dy, w, ht, b, V, hK, hR, hh, hi, hf => by
    by_cases h0 : S = 0
    · subst h0
      refine Or.inl ⟨dx, dy, w, b, V, ?_, hR, hK, fun z hz => hz⟩
      have e : f_X5_rollToHit_l16 a (a + 1 + 2 + m) (sp_rs b (b (8 + 5 * m)) (b (8 + 5 * m + 1)) k) (nI i) V = some (.inr (.inr V)) := by
        unfold f_X5_rollToHit_l16
        by_cases h40 : i = 40
        · rw [h40, if_pos (by decide)]
        · rw [cr_L40, if_neg (nI_ge (by omega) (by decide)), hR.2.1, if_pos (by decide)]
      exact cr_it_r e
    · obtain ⟨s1, s2⟩ := cr_rth_step ha hK hR (by omega) (show i < 40 by omega)
      have hne : ¬ sp_end (m, dx, dy, S, h, w, ht, b) := by
        intro h
        rcases h with h | h
        · exact h0 h
        · exact absurd hh (Nat.not_lt.mpr h)
      by_cases hat : sp_at b (b (8 + 5 * m) + sp_w (b (8 + 5 * m)) dx) (b (8 + 5 * m + 1) + sp_w (b (8 + 5 * m + 1)) dy) n = 99
      · obtain ⟨W, e, hR2, hK2⟩ := s1 hat
        have ih := cr_rth (V0 := V0) ha fuel _ (i + 1) m h _ _ _ ht _ W hK2 hR2 hh (by omega) (by omega)
        rw [sp_mv_x.1, sp_mv_x.2, sp_rs_mv (by have := hK.1.1; have := hK.2.1; omega)] at ih
        rcases ih with ⟨dx', dy', w', b', V', i1, i2, i3, i4⟩ | ⟨dx', dy', S', w', b', V', o, i1, i2, i3, i4, i5⟩
        · exact Or.inl ⟨dx', dy', w', b', V', (cr_it_l e).trans i1, i2, i3, fun z hz => sp_E_step hne (by rw [sp_step_m hat]; exact i4 z hz)⟩
        · exact Or.inr ⟨dx', dy', S', w', b', V', o, (cr_it_l e).trans i1, i2, i3, i4, fun z hz => sp_E_step hne (by rw [sp_step_m hat]; exact i5 z hz)⟩
      · obtain ⟨W, e, hR2, hK2⟩ := s2 hat
        obtain ⟨o1, -⟩ := sp_at_s n hat
        exact Or.inr ⟨_, _, S, _, b, W, _, cr_it_r e, hR2, hK2, o1, fun z hz => sp_E_step hne (by rw [sp_step_h hat]; exact hz)⟩
theorem cr_passed {V : cr_Hp} {S s1 s2 : Nat} (h7 : V 153 7 = nI S) (hS : S ≤ 40) (h1 : s1 ≤ 3) (h2 : 1 ≤ s2) (h3 : s2 ≤ 3) : f_X5_passedOn (nI s1) (nI s2) V = some (nI (min 40 (S * s1 / s2))) := by
  unfold f_X5_passedOn
  have e := cr_pass_c ⟨S, by omega⟩ ⟨s1, by omega⟩ ⟨s2, by omega⟩ h2
  rw [if_pos (show (1 : Int32) ≤ nI s2 from nI_le (a := 1) h2 (by omega)), cr_gd_e (nI_ne0 (by omega) (by omega)), cr_lt_e, h7]
  exact congrArg some e
theorem cr_rall {a n k : Nat} {V0 : cr_Hp} {ra : Nat → Int32} (ha : cr_pg a) : ∀ (fuel h m S : Nat) (dx dy w : Int32) (ht : Nat → Bool) (b : Nat → Int32) (V : cr_Hp), sp_K n k m dx dy S h b → cr_RC a V0 V n k ra dx dy S h w ht b → 60 - h < fuel →
    ∃ m' dx' dy' S' h' w' ht' b' V', sp_E n k (m, dx, dy, S, h, w, ht, b) (m', dx', dy', S', h', w', ht', b') ∧ cr_RC a V0 V' n k ra dx' dy' S' h' w' ht' b' ∧ sp_K n k m' dx' dy' S' h' b' ∧
      (cr_it (fun (q : Nat × Int32 × cr_Hp) => f_X5_rollAll_l5 a q.1 q.2.1 q.2.2) fuel (a + 1 + 2 + m, nI h, V) = some (.inl (a + 1 + 2 + m', V')) ∨ cr_it (fun (q : Nat × Int32 × cr_Hp) => f_X5_rollAll_l5 a q.1 q.2.1 q.2.2) fuel (a + 1 + 2 + m, nI h, V) = some (.inr (a + 1 + 2 + m', V')))
  | 0, h, m, S, dx, dy, w, ht, b, V, _, _, hf => by omega
  | fuel + 1, h, m, S, dx, dy, w, ht, b, V, hK, hR, hf => by
    have hma : cr_ma (a + 1 + 2 + m) := cr_ms_ma (cr_pg_ms ha) (by have := hK.1.1; have := hK.2.1; omega)
    by_cases h60 : h = 60
    · subst h60
      refine ⟨m, dx, dy, S, 60, w, ht, b, V, sp_E_end (Or.inr (Nat.le_refl 60)), hR, hK, Or.inr ?_⟩
      have e : f_X5_rollAll_l5 a (a + 1 + 2 + m) (nI 60) V = some (.inr (.inr (a + 1 + 2 + m, V))) := by
        unfold f_X5_rollAll_l5
        rw [cr_gd_e hma, if_pos (by decide)]
      exact cr_it_r e
    · have hh : h < 60 := by have := hK.2.2.2.1; omega
      have hm12 : m < 12 := by have := hK.1.1; have := hK.2.1; omega
      obtain ⟨e1, e2, e3, -⟩ := hR.1.2.2.2.1 m hK.2.1
      have eR : f_X5_rollToHit a (a + 1 + 2 + m) V = cr_bd (cr_it (fun (q : Int32 × Int32 × cr_Hp) => f_X5_rollToHit_l16 a (a + 1 + 2 + m) q.1 q.2.1 q.2.2) cr_FU (sp_rs b (b (8 + 5 * m)) (b (8 + 5 * m + 1)) k, nI 0, V)) (cr_sm (cr_u2 (fun (u7_16_73 : Nat) (V_e16_73 : cr_Hp) => cr_gd (cr_ma u7_16_73) (some ((some u7_16_73), V_e16_73)))) (fun (V_e16_129 : cr_Hp) => some (none, V_e16_129))) := by
        unfold f_X5_rollToHit
        rw [cr_ringsAround hK.1 hR.1, cr_bd_some, e1, e2]; rfl
      rcases cr_rth (V0 := V0) ha cr_FU S 0 m h dx dy w ht b V hK hR hh (by have := hK.2.2.1; omega) (show S < 100000 by have := hK.2.2.1; omega) with ⟨dx', dy', w', b', V', i1, i2, i3, i4⟩ | ⟨dx', dy', S', w', b', V', o, i1, i2, i3, i4, i5⟩
      · refine ⟨m, dx', dy', 0, h, w', ht, b', V', i4 _ (sp_E_end (Or.inl rfl)), i2, i3, Or.inl ?_⟩
        have e : f_X5_rollAll_l5 a (a + 1 + 2 + m) (nI h) V = some (.inr (.inl (a + 1 + 2 + m, V'))) := by
          unfold f_X5_rollAll_l5
          rw [cr_gd_e hma, cr_L60, if_neg (nI_ge hh (by decide)), eR, i1, cr_bd_some, cr_sm_r, cr_b2_some, cr_on_0]
        exact cr_it_r e
      · have ho12 : o < 12 := by have := hK.1.1; omega
        have hmo : cr_ma (a + 1 + 2 + o) := cr_ms_ma (cr_pg_ms ha) ho12
        obtain ⟨g1, g2, g3⟩ := cr_size i3.1 i3.2.1
        obtain ⟨p1, p2, p3⟩ := cr_size i3.1 i4
        obtain ⟨-, -, q3, -⟩ := i2.1.2.2.2.1 m i3.2.1
        obtain ⟨-, -, r3, -⟩ := i2.1.2.2.2.1 o i4
        obtain ⟨hC, x7, x8, x9, x2, x6, xh, xr, x0, xf⟩ := i2
        obtain ⟨W, eW⟩ : ∃ W, W = cr_pt (cr_pt (cr_pt V' 153 2 (nI (h + 1))) (a + 1 + 2 + o) 8 (1 : Int32)) 153 7 (nI (min 40 (S' * sp_sz b' m / sp_sz b' o))) := ⟨_, rfl⟩
        have hW : f_X5_rollAll_l5 a (a + 1 + 2 + m) (nI h) V = some (.inl (a + 1 + 2 + o, nI (h + 1), W)) := by
          unfold f_X5_rollAll_l5
          rw [cr_gd_e hma, cr_L60, if_neg (nI_ge hh (by decide)), eR, i1, cr_bd_some, cr_sm_l]
          rw [show (cr_u2 (fun (u7_16_73 : Nat) (V_e16_73 : cr_Hp) => cr_gd (cr_ma u7_16_73) (some ((some u7_16_73), V_e16_73)))) (a + 1 + 2 + o, V') = cr_gd (cr_ma (a + 1 + 2 + o)) (some ((some (a + 1 + 2 + o)), V')) from rfl, cr_gd_e hmo, cr_b2_some, cr_on_1, cr_gd_e hmo, cr_lt_e, cr_lt_e, x2, cr_1]
          rw [cr_pv, if_neg (by omega), cr_pt_ne (show a + 1 + 2 + m ≠ 153 by omega), cr_pv (b := a + 1 + 2 + o) (t := 3), if_neg (by omega), cr_pt_ne (show a + 1 + 2 + o ≠ 153 by omega), q3, r3, g1, p1, cr_passed (S := S') (by rw [cr_pt_ne (by omega), cr_pv, if_neg (by omega)]; exact x7) i3.2.2.1 g3 p2 p3, cr_bd_some, cr_lt_e, ← eW]
        have hn12 := i3.1.1
        have hRW : cr_RC a V0 W n k ra dx' dy' (min 40 (S' * sp_sz b' m / sp_sz b' o)) (h + 1) w' (fun i => i == o || ht i) b' := by
          subst eW
          refine ⟨cr_C_of i3.1.1 i3.1.2.1 hC ha (fun c hc => by rw [cr_pt_ne (by omega), cr_pt_ne (by omega), cr_pt_ne (by omega)]) (fun j hj => by rw [cr_pt_ne (by omega), cr_pv, if_neg (by omega), cr_pt_ne (by omega)]; exact hC.2.2.1 j hj) (fun j hj t _ _ => by rw [cr_pt_ne (by omega), cr_pv, if_neg (by omega), cr_pt_ne (by omega)]) (fun r hr t _ => by rw [cr_pt_ne (by omega), cr_pt_ne (by omega), cr_pt_ne (by omega)]), ?_, ?_, ?_, ?_, ?_, fun j hj => ?_, fun j hj => ?_, ?_, fun c c1 c2 => ?_⟩
          · rw [cr_pv, if_pos ⟨rfl, rfl⟩]
          · rw [cr_pv, if_neg (by omega), cr_pt_ne (by omega), cr_pv, if_neg (by omega)]; exact x8
          · rw [cr_pv, if_neg (by omega), cr_pt_ne (by omega), cr_pv, if_neg (by omega)]; exact x9
          · rw [cr_pv, if_neg (by omega), cr_pt_ne (by omega), cr_pv, if_pos ⟨rfl, rfl⟩]
          · rw [cr_pv, if_neg (by omega), cr_pt_ne (by omega), cr_pv, if_neg (by omega)]; exact x6
          · rw [cr_pt_ne (by omega), cr_pv]
            by_cases h : j = o
            · rw [if_pos ⟨by omega, rfl⟩, h]
              simp
            · rw [if_neg (by omega), cr_pt_ne (by omega), xh j hj]
              simp [h]
          · rw [cr_pt_ne (by omega), cr_pv, if_neg (by omega), cr_pt_ne (by omega)]; exact xr j hj
          · rw [cr_pv, if_neg (by omega), cr_pt_ne (by omega), cr_pv, if_neg (by omega), cr_pv, if_neg (by omega), cr_pt_ne (by omega), cr_pv, if_neg (by omega)]; exact x0
          · rw [cr_pt_ne c2, cr_pt_ne (by omega), cr_pt_ne c2]; exact xf c c1 c2
        have hKW : sp_K n k o dx' dy' (min 40 (S' * sp_sz b' m / sp_sz b' o)) (h + 1) b' := ⟨i3.1, i4, Nat.min_le_left _ _, by omega, i3.2.2.2.2.1, i3.2.2.2.2.2⟩
        obtain ⟨m2, dx2, dy2, S2, h2, w2, ht2, b2, V2, z1, z2, z3, z4⟩ := cr_rall (V0 := V0) ha fuel (h + 1) o _ dx' dy' w' _ b' W hKW hRW (by omega)
        refine ⟨m2, dx2, dy2, S2, h2, w2, ht2, b2, V2, i5 _ z1, z2, z3, ?_⟩
        rcases z4 with z4 | z4
        · exact Or.inl ((cr_it_l hW).trans z4)
        · exact Or.inr ((cr_it_l hW).trans z4)
theorem cr_rollAll {a n k m S : Nat} {V0 V : cr_Hp} {ra : Nat → Int32} {dx dy w : Int32} {ht : Nat → Bool} {b : Nat → Int32} (ha : cr_pg a) (hK : sp_K n k m dx dy S 0 b) (hR : cr_RC a V0 V n k ra dx dy S 0 w ht b) :
    ∃ m' dx' dy' S' h' w' ht' b' V', sp_E n k (m, dx, dy, S, 0, w, ht, b) (m', dx', dy', S', h', w', ht', b') ∧ f_X5_rollAll a (a + 1 + 2 + m) V = some V' ∧ cr_RC a V0 V' n k ra dx' dy' S' h' w' ht' b' ∧ sp_K n k m' dx' dy' S' h' b' ∧ V' 153 3 = nI m' ∧ V' 153 4 = b' (8 + 5 * m') ∧ V' 153 5 = b' (8 + 5 * m' + 1) := by
  obtain ⟨m', dx', dy', S', h', w', ht', b', V1, z1, z2, z3, z4⟩ := cr_rall (V0 := V0) ha cr_FU 0 m S dx dy w ht b V hK hR (by decide)
  have hn12 := z3.1.1
  have hm12 : m' < 12 := by have := z3.2.1; omega
  have hma : cr_ma (a + 1 + 2 + m') := cr_ms_ma (cr_pg_ms ha) hm12
  obtain ⟨hC, x7, x8, x9, x2, x6, xh, xr, x0, xf⟩ := z2
  obtain ⟨e1, e2, e3, -⟩ := hC.2.2.2.1 m' z3.2.1
  have e0 := hC.2.2.1 m' hm12
  have hb : f_X5_rollAll_b70 (a + 1 + 2 + m') V1 = some (cr_pt (cr_pt (cr_pt V1 153 3 (nI m')) 153 4 (b' (8 + 5 * m'))) 153 5 (b' (8 + 5 * m' + 1))) := by
    unfold f_X5_rollAll_b70
    rw [cr_lt_e, cr_lt_e, cr_lt_e, e0, cr_pt_ne (show a + 1 + 2 + m' ≠ 153 by omega), e1, cr_pt_ne (show a + 1 + 2 + m' ≠ 153 by omega), cr_pt_ne (show a + 1 + 2 + m' ≠ 153 by omega), e2]
  refine ⟨m', dx', dy', S', h', w', ht', b', cr_pt (cr_pt (cr_pt V1 153 3 (nI m')) 153 4 (b' (8 + 5 * m'))) 153 5 (b' (8 + 5 * m' + 1)), z1, ?_, ⟨cr_C_fr z3.1.1 z3.1.2.1 hC (fun c c1 c2 => by rw [cr_pt_ne (by omega), cr_pt_ne (by omega), cr_pt_ne (by omega)]), ?_, ?_, ?_, ?_, ?_, fun j hj => ?_, fun j hj => ?_, ?_, fun c c1 c2 => ?_⟩, z3, ?_, ?_, ?_⟩
  · unfold f_X5_rollAll
    rcases z4 with z4 | z4
    · rw [show cr_it (fun (q : Nat × Int32 × cr_Hp) => f_X5_rollAll_l5 a q.1 q.2.1 q.2.2) cr_FU (a + 1 + 2 + m, (0 : Int32), V) = _ from z4, cr_bd_some, cr_sm_l]
      exact (cr_gd_e hma).trans hb
    · rw [show cr_it (fun (q : Nat × Int32 × cr_Hp) => f_X5_rollAll_l5 a q.1 q.2.1 q.2.2) cr_FU (a + 1 + 2 + m, (0 : Int32), V) = _ from z4, cr_bd_some, cr_sm_r]
      exact (cr_gd_e hma).trans hb
  · rw [cr_pv, if_neg (by omega), cr_pv, if_neg (by omega), cr_pv, if_neg (by omega)]; exact x7
  · rw [cr_pv, if_neg (by omega), cr_pv, if_neg (by omega), cr_pv, if_neg (by omega)]; exact x8
  · rw [cr_pv, if_neg (by omega), cr_pv, if_neg (by omega), cr_pv, if_neg (by omega)]; exact x9
  · rw [cr_pv, if_neg (by omega), cr_pv, if_neg (by omega), cr_pv, if_neg (by omega)]; exact x2
  · rw [cr_pv, if_neg (by omega), cr_pv, if_neg (by omega), cr_pv, if_neg (by omega)]; exact x6
  · rw [cr_pt_ne (by omega), cr_pt_ne (by omega), cr_pt_ne (by omega)]; exact xh j hj
  · rw [cr_pt_ne (by omega), cr_pt_ne (by omega), cr_pt_ne (by omega)]; exact xr j hj
  · rw [cr_pv, if_neg (by omega), cr_pv, if_neg (by omega), cr_pv, if_neg (by omega), cr_pv, if_neg (by omega), cr_pv, if_neg (by omega), cr_pv, if_neg (by omega)]; exact x0
  · rw [cr_pt_ne c2, cr_pt_ne c2, cr_pt_ne c2]; exact xf c c1 c2
  · rw [cr_pv, if_neg (by omega), cr_pv, if_neg (by omega), cr_pv, if_pos (by omega)]
  · rw [cr_pv, if_neg (by omega), cr_pv, if_pos (by omega)]
  · rw [cr_pv, if_pos (by omega)]
