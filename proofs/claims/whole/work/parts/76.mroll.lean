/-! the model rolls -/
def sp_ov (b : Nat → Int32) (c3 c4 c5 c7 : Int32) : Nat → Int32 := fun t => if t = 3 then c3 else if t = 4 then c4 else if t = 5 then c5 else if t = 7 then c7 else b t
theorem sp_ov_o {b : Nat → Int32} {c3 c4 c5 c7 : Int32} {t : Nat} (h : t ≠ 3 ∧ t ≠ 4 ∧ t ≠ 5 ∧ t ≠ 7) : sp_ov b c3 c4 c5 c7 t = b t := by
  unfold sp_ov
  rw [if_neg h.1, if_neg h.2.1, if_neg h.2.2.1, if_neg h.2.2.2]
theorem sp_ov_8 {b : Nat → Int32} {c3 c4 c5 c7 : Int32} {t : Nat} (h : 8 ≤ t) : sp_ov b c3 c4 c5 c7 t = b t := sp_ov_o (by omega)
theorem sp_ov_u {b : Nat → Int32} {c3 c4 c5 c7 v : Int32} {t : Nat} (h : t ≠ 3 ∧ t ≠ 4 ∧ t ≠ 5 ∧ t ≠ 7) : upd (sp_ov b c3 c4 c5 c7) t v = sp_ov (upd b t v) c3 c4 c5 c7 := by
  funext i
  by_cases hi : i = t
  · subst hi
    rw [cr_uv, if_pos rfl, sp_ov_o h, cr_uv, if_pos rfl]
  · rw [cr_uv, if_neg hi]
    unfold sp_ov
    rw [cr_uv, if_neg hi]
theorem sp_ov_7 {b : Nat → Int32} {c3 c4 c5 c7 v : Int32} : upd (sp_ov b c3 c4 c5 c7) 7 v = sp_ov b c3 c4 c5 v := by
  funext i
  rw [cr_uv]
  unfold sp_ov
  by_cases hi : i = 7
  · subst hi; rfl
  · rw [if_neg hi, if_neg hi, if_neg hi]
theorem sp_ov_4 {b : Nat → Int32} {c3 c4 c5 c7 v : Int32} : upd (sp_ov b c3 c4 c5 c7) 4 v = sp_ov b c3 v c5 c7 := by
  funext i
  rw [cr_uv]
  unfold sp_ov
  by_cases hi : i = 4
  · subst hi; rfl
  · rw [if_neg hi, if_neg hi, if_neg hi]
theorem sp_ov_3 {b : Nat → Int32} {c3 c4 c5 c7 v : Int32} : upd (sp_ov b c3 c4 c5 c7) 3 v = sp_ov b v c4 c5 c7 := by
  funext i
  rw [cr_uv]
  unfold sp_ov
  by_cases hi : i = 3
  · subst hi; rfl
  · rw [if_neg hi, if_neg hi, if_neg hi]
theorem sp_ov_5 {b : Nat → Int32} {c3 c4 c5 c7 v : Int32} : upd (sp_ov b c3 c4 c5 c7) 5 v = sp_ov b c3 c4 v c7 := by
  funext i
  rw [cr_uv]
  unfold sp_ov
  by_cases hi : i = 5
  · subst hi; rfl
  · rw [if_neg hi, if_neg hi, if_neg hi]
theorem sp_ov_id {b : Nat → Int32} : sp_ov b (b 3) (b 4) (b 5) (b 7) = b := by
  funext i
  unfold sp_ov
  by_cases h3 : i = 3
  · rw [if_pos h3, h3]
  · rw [if_neg h3]
    by_cases h4 : i = 4
    · rw [if_pos h4, h4]
    · rw [if_neg h4]
      by_cases h5 : i = 5
      · rw [if_pos h5, h5]
      · rw [if_neg h5]
        by_cases h7 : i = 7
        · rw [if_pos h7, h7]
        · rw [if_neg h7]
theorem cr_B_ov {b : Nat → Int32} {n k : Nat} {c3 c4 c5 c7 : Int32} (hB : cr_B b n k) : cr_B (sp_ov b c3 c4 c5 c7) n k := by
  have e : sp_ov b c3 c4 c5 c7 = upd (upd (upd (upd b 3 c3) 4 c4) 5 c5) 7 c7 := by
    have h1 : upd (upd (upd (upd (sp_ov b (b 3) (b 4) (b 5) (b 7)) 3 c3) 4 c4) 5 c5) 7 c7 = sp_ov b c3 c4 c5 c7 := by rw [sp_ov_3, sp_ov_4, sp_ov_5, sp_ov_7]
    rw [sp_ov_id] at h1
    exact h1.symm
  rw [e]
  exact cr_B_u (cr_B_u (cr_B_u (cr_B_u hB (by omega) (by omega) (fun h => absurd h (by omega))) (by omega) (by omega) (fun h => absurd h (by omega))) (by omega) (by omega) (fun h => absurd h (by omega))) (by omega) (by omega) (fun h => absurd h (by omega))
theorem sp_ov_rs {b : Nat → Int32} {c3 c4 c5 c7 : Int32} {x y : Int32} {k : Nat} : sp_rs (sp_ov b c3 c4 c5 c7) x y k = sp_rs b x y k := sp_rs_co (fun t ht => sp_ov_8 (by omega)) k
theorem sp_ov_on {b : Nat → Int32} {c3 c4 c5 c7 : Int32} {x y : Int32} {i : Nat} : cr_on_pt (sp_ov b c3 c4 c5 c7) i x y ↔ cr_on_pt b i x y := by
  unfold cr_on_pt cr_lie
  rw [sp_ov_8 (by omega), sp_ov_8 (by omega), sp_ov_8 (by omega)]
/-- bits of the marbles that were hit -/
theorem cr_s31 : ∀ n, n < 32 → ((nI n &&& 31).toBitVec.smod 32).toNat = n := by decide +kernel
theorem cr_or_nI {u v : Nat} (hu : u < 2 ^ 31) (hv : v < 2 ^ 31) : nI u ||| nI v = nI (u ||| v) := by
  apply Int32.toBitVec_inj.mp
  apply BitVec.eq_of_toNat_eq
  rw [Int32.toBitVec_or, BitVec.toNat_or, pk_tn (by omega), pk_tn (by omega), pk_tn]
  exact Nat.lt_of_lt_of_le (Nat.or_lt_two_pow hu hv) (by decide)
theorem cr_bit_set {v o : Nat} (hv : v < 4096) (ho : o < 12) : nI v ||| ((1 : Int32) <<< (nI o &&& 31)) = nI (v ||| 2 ^ o) ∧ v ||| 2 ^ o < 4096 := by
  have h2 : 2 ^ o < 2 ^ 12 := Nat.pow_lt_pow_right (by decide) ho
  refine ⟨?_, Nat.or_lt_two_pow (n := 12) hv h2⟩
  rw [cr_L1, pk_shlN _ o (cr_s31 o (by omega)) (by omega), Nat.one_mul, cr_or_nI (by omega) (by omega)]
theorem cr_bit_get {v j : Nat} (hv : v < 4096) (hj : j < 12) : ((nI v >>> (nI j &&& 31)) &&& (1 : Int32)) = (1 : Int32) ↔ v.testBit j = true := by
  rw [pk_shrN (by omega) _ j (cr_s31 j (by omega)), pk_andN (Nat.lt_of_le_of_lt (Nat.div_le_self _ _) (by omega)) 1 (by decide), cr_L1, nI_eq (by omega) (by decide), Nat.testBit_eq_decide_div_mod_eq]
  simp
theorem cr_bit_or {v o j : Nat} {ht : Nat → Bool} (h : v.testBit j = ht j) : (v ||| 2 ^ o).testBit j = (j == o || ht j) := by
  rw [Nat.testBit_or, Nat.testBit_two_pow, h]
  by_cases hj : j = o
  · subst hj; simp
  · have : ¬ o = j := fun e => hj e.symm
    simp [hj, this]
def cr_RM (V0 V : cr_Hp) (n : Nat) (ra : Nat → Int32) (c3 c4 c5 c7 : Int32) (h : Nat) (w : Int32) (ht : Nat → Bool) (b : Nat → Int32) : Prop :=
  V 160 = sp_ov b c3 (c4 + nI h) c5 (c7 + w) ∧ (∃ v, v < 4096 ∧ V 159 9 = nI v ∧ ∀ j, j < n → v.testBit j = ht j) ∧ (∀ j, j < n → V 166 j = ra j) ∧ (∀ c, c ≠ 159 → c ≠ 160 → c ≠ 166 → V c = V0 c) ∧ ∀ t, t < 9 → V 159 t = V0 159 t
theorem cr_RM_wall {V0 V : cr_Hp} {n : Nat} {ra : Nat → Int32} {c3 c4 c5 c7 : Int32} {h : Nat} {w : Int32} {ht : Nat → Bool} {b : Nat → Int32} (hR : cr_RM V0 V n ra c3 c4 c5 c7 h w ht b) : cr_RM V0 (cr_pt V 160 7 (V 160 7 + 1)) n ra c3 c4 c5 c7 h (w + 1) ht b := by
  obtain ⟨r1, r2, r3, r4, r5⟩ := hR
  refine ⟨?_, by rw [cr_pt_ne (by omega)]; exact r2, fun j hj => by rw [cr_pt_ne (by omega)]; exact r3 j hj, fun c c1 c2 c3 => by rw [cr_pt_ne c2]; exact r4 c c1 c2 c3, fun t ht => by rw [cr_pt_ne (by omega)]; exact r5 t ht⟩
  rw [cr_pt_eq, r1, sp_ov_7]
  have e : sp_ov b c3 (c4 + nI h) c5 (c7 + w) 7 = c7 + w := rfl
  rw [e, Int32.add_assoc]
theorem cr_mstep {n k m S h : Nat} {V0 V : cr_Hp} {ra : Nat → Int32} {c3 c4 c5 c7 : Int32} {dx dy w : Int32} {ht : Nat → Bool} {b : Nat → Int32} (hK : sp_K n k m dx dy S h b) (hR : cr_RM V0 V n ra c3 c4 c5 c7 h w ht b) (h1 : 1 ≤ S) :
    (sp_at b (b (8 + 5 * m) + sp_w (b (8 + 5 * m)) dx) (b (8 + 5 * m + 1) + sp_w (b (8 + 5 * m + 1)) dy) n = 99 → ∃ W, f_X8_rolls_l30 (nI m) dx dy (nI S) (nI h) V = some (.inl (nI m, sp_w (b (8 + 5 * m)) dx, sp_w (b (8 + 5 * m + 1)) dy, nI S - ((1 : Int32) + nI (sp_ct b k (b (8 + 5 * m)) (b (8 + 5 * m + 1)) (b (8 + 5 * m) + sp_w (b (8 + 5 * m)) dx) (b (8 + 5 * m + 1) + sp_w (b (8 + 5 * m + 1)) dy))), nI h, W)) ∧ cr_RM V0 W n ra c3 c4 c5 c7 h (sp_wc (b (8 + 5 * m + 1)) dy (sp_wc (b (8 + 5 * m)) dx w)) ht (sp_mv b m (b (8 + 5 * m) + sp_w (b (8 + 5 * m)) dx) (b (8 + 5 * m + 1) + sp_w (b (8 + 5 * m + 1)) dy)) ∧ sp_K n k m (sp_w (b (8 + 5 * m)) dx) (sp_w (b (8 + 5 * m + 1)) dy) (S - 1 - sp_ct b k (b (8 + 5 * m)) (b (8 + 5 * m + 1)) (b (8 + 5 * m) + sp_w (b (8 + 5 * m)) dx) (b (8 + 5 * m + 1) + sp_w (b (8 + 5 * m + 1)) dy)) h (sp_mv b m (b (8 + 5 * m) + sp_w (b (8 + 5 * m)) dx) (b (8 + 5 * m + 1) + sp_w (b (8 + 5 * m + 1)) dy)) ∧ sp_ct b k (b (8 + 5 * m)) (b (8 + 5 * m + 1)) (b (8 + 5 * m) + sp_w (b (8 + 5 * m)) dx) (b (8 + 5 * m + 1) + sp_w (b (8 + 5 * m + 1)) dy) ≤ 4) ∧
    (¬ sp_at b (b (8 + 5 * m) + sp_w (b (8 + 5 * m)) dx) (b (8 + 5 * m + 1) + sp_w (b (8 + 5 * m + 1)) dy) n = 99 → h < 60 → ∃ W, f_X8_rolls_l30 (nI m) dx dy (nI S) (nI h) V = some (.inl (nI (sp_at b (b (8 + 5 * m) + sp_w (b (8 + 5 * m)) dx) (b (8 + 5 * m + 1) + sp_w (b (8 + 5 * m + 1)) dy) n), sp_w (b (8 + 5 * m)) dx, sp_w (b (8 + 5 * m + 1)) dy, (if h + 1 = 60 then (0 : Int32) else nI (min 40 (S * sp_sz b m / sp_sz b (sp_at b (b (8 + 5 * m) + sp_w (b (8 + 5 * m)) dx) (b (8 + 5 * m + 1) + sp_w (b (8 + 5 * m + 1)) dy) n)))), nI (h + 1), W)) ∧ cr_RM V0 W n ra c3 c4 c5 c7 (h + 1) (sp_wc (b (8 + 5 * m + 1)) dy (sp_wc (b (8 + 5 * m)) dx w)) (fun i => i == sp_at b (b (8 + 5 * m) + sp_w (b (8 + 5 * m)) dx) (b (8 + 5 * m + 1) + sp_w (b (8 + 5 * m + 1)) dy) n || ht i) b ∧ sp_K n k (sp_at b (b (8 + 5 * m) + sp_w (b (8 + 5 * m)) dx) (b (8 + 5 * m + 1) + sp_w (b (8 + 5 * m + 1)) dy) n) (sp_w (b (8 + 5 * m)) dx) (sp_w (b (8 + 5 * m + 1)) dy) (min 40 (S * sp_sz b m / sp_sz b (sp_at b (b (8 + 5 * m) + sp_w (b (8 + 5 * m)) dx) (b (8 + 5 * m + 1) + sp_w (b (8 + 5 * m + 1)) dy) n))) (h + 1) b) := by
  obtain ⟨x, y, hx, hy, ex, ey, dx1, dy1⟩ := sp_K_turn hK
  obtain ⟨hB, hm, hS, hh, -, -⟩ := hK
  have hn := hB.1
  have hk := hB.2.1
  have hm12 : m < 12 := by omega
  -- the first wall
  have A : ∃ W, f_X8_rolls_l30 (nI m) dx dy (nI S) (nI h) V = f_X8_rolls_b70 (nI m) dy (nI S) (nI h) (sp_w (b (8 + 5 * m)) dx) W ∧ cr_RM V0 W n ra c3 c4 c5 c7 h (sp_wc (b (8 + 5 * m)) dx w) ht b := by
    have e160 := hR.1
    unfold f_X8_rolls_l30 sp_w sp_wc
    rw [if_neg (nI_nle (by omega) (by omega)), cr_mp0 hm12, cr_bd_some, e160, sp_ov_8 (by omega), cr_within, cr_bd_some]
    by_cases hc : ¬ (b (8 + 5 * m) + dx) < 0 ∧ ¬ (30 : Int32) < (b (8 + 5 * m) + dx)
    · rw [if_pos hc, if_neg (by decide), if_pos hc, if_pos hc]
      exact ⟨V, rfl, hR⟩
    · rw [if_neg hc, if_pos (by decide), if_neg hc, if_neg hc, cr_G7, cr_G7, cr_lt_e, cr_T7]
      exact ⟨_, rfl, by have := cr_RM_wall hR; rw [e160] at this; exact this⟩
  obtain ⟨VA, eA, RA⟩ := A
  have Bq : ∃ W, f_X8_rolls_b70 (nI m) dy (nI S) (nI h) (sp_w (b (8 + 5 * m)) dx) VA = f_X8_rolls_b105 (nI m) (nI S) (nI h) (sp_w (b (8 + 5 * m)) dx) (sp_w (b (8 + 5 * m + 1)) dy) W ∧ cr_RM V0 W n ra c3 c4 c5 c7 h (sp_wc (b (8 + 5 * m + 1)) dy (sp_wc (b (8 + 5 * m)) dx w)) ht b := by
    have e160 := RA.1
    unfold f_X8_rolls_b70
    rw [cr_mp1 hm12, cr_bd_some, e160, sp_ov_8 (by omega), cr_within, cr_bd_some]
    rw [show sp_w (b (8 + 5 * m + 1)) dy = if ¬ (b (8 + 5 * m + 1) + dy) < 0 ∧ ¬ (30 : Int32) < (b (8 + 5 * m + 1) + dy) then dy else -dy from rfl, show sp_wc (b (8 + 5 * m + 1)) dy (sp_wc (b (8 + 5 * m)) dx w) = if ¬ (b (8 + 5 * m + 1) + dy) < 0 ∧ ¬ (30 : Int32) < (b (8 + 5 * m + 1) + dy) then sp_wc (b (8 + 5 * m)) dx w else sp_wc (b (8 + 5 * m)) dx w + 1 from rfl]
    by_cases hc : ¬ (b (8 + 5 * m + 1) + dy) < 0 ∧ ¬ (30 : Int32) < (b (8 + 5 * m + 1) + dy)
    · rw [if_pos hc, if_neg (by decide), if_pos hc, if_pos hc]
      exact ⟨VA, rfl, RA⟩
    · rw [if_neg hc, if_pos (by decide), if_neg hc, if_neg hc, cr_G7, cr_G7, cr_lt_e, cr_T7]
      exact ⟨_, rfl, by have := cr_RM_wall RA; rw [e160] at this; exact this⟩
  obtain ⟨VB, eB, RB⟩ := Bq
  rw [eA, eB]
  obtain ⟨r1, ⟨v, v1, v2, v3⟩, r3, r4, r5⟩ := RB
  have hBo : cr_B (sp_ov b c3 (c4 + nI h) c5 (c7 + sp_wc (b (8 + 5 * m + 1)) dy (sp_wc (b (8 + 5 * m)) dx w))) n k := cr_B_ov hB
  unfold f_X8_rolls_b105
  rw [cr_mp0 hm12, cr_bd_some, cr_mp1 hm12, cr_bd_some, r1, sp_ov_8 (by omega), sp_ov_8 (by omega)]
  constructor
  · intro hat
    have ho := sp_at_n n (by omega) hat
    obtain ⟨-, c2, c3⟩ := cr_cost (b := b) (X := b (8 + 5 * m)) (Y := b (8 + 5 * m + 1)) (x := b (8 + 5 * m) + sp_w (b (8 + 5 * m)) dx) (y := b (8 + 5 * m + 1) + sp_w (b (8 + 5 * m + 1)) dy) hk
    rw [cr_marbleAt_n hBo r1 (fun i hi h => ho i hi (sp_ov_on.mp h)), cr_bd_some, if_pos (by decide), cr_mringsM hm12 hBo r1, cr_bd_some, cr_mringsOf hBo r1, cr_bd_some, sp_ov_rs, sp_ov_rs, sp_ov_8 (by omega), sp_ov_8 (by omega), cr_ones, cr_bd_some, c2, cr_ms0 hm12, cr_bd_some, cr_ms1 hm12, cr_bd_some]
    refine ⟨_, rfl, ⟨?_, ?_, fun j hj => ?_, fun c c1 c2 c3 => ?_, fun t ht => ?_⟩, ⟨?_, hm, by omega, hh, dx1, dy1⟩, c3⟩
    · rw [cr_pt_eq, cr_pt_eq, r1, sp_ov_u (by omega), sp_ov_u (by omega)]; rfl
    · rw [cr_pt_ne (by omega), cr_pt_ne (by omega)]; exact ⟨v, v1, v2, v3⟩
    · rw [cr_pt_ne (by omega), cr_pt_ne (by omega)]; exact r3 j hj
    · rw [cr_pt_ne c2, cr_pt_ne c2]; exact r4 c c1 c2 c3
    · rw [cr_pt_ne (by omega), cr_pt_ne (by omega)]; exact r5 t ht
    · rw [ex, ey]
      exact cr_B_mv hB hm hx hy (by rw [← ex, ← ey]; exact ho)
  · intro hat h60
    obtain ⟨o1, o2⟩ := sp_at_s n hat
    obtain ⟨o, eo⟩ : ∃ o, o = sp_at b (b (8 + 5 * m) + sp_w (b (8 + 5 * m)) dx) (b (8 + 5 * m + 1) + sp_w (b (8 + 5 * m + 1)) dy) n := ⟨_, rfl⟩
    rw [← eo] at o1 o2 ⊢
    have ho12 : o < 12 := by omega
    obtain ⟨g1, g2, g3⟩ := cr_size hB hm
    obtain ⟨p1, p2, p3⟩ := cr_size hB o1
    have ep := cr_pass_m ⟨S, by omega⟩ ⟨sp_sz b m, by omega⟩ ⟨sp_sz b o, by omega⟩ p2
    have ep : (if ((nI S * nI (sp_sz b m)) / nI (sp_sz b o)) ≤ (40 : Int32) then ((nI S * nI (sp_sz b m)) / nI (sp_sz b o)) else (40 : Int32)) = nI (min 40 (S * sp_sz b m / sp_sz b o)) := ep
    obtain ⟨q1, q2⟩ := cr_bit_set v1 ho12
    have key : ∀ z : Int32, ∃ W, f_X8_rolls_b227 (nI h) (sp_w (b (8 + 5 * m)) dx) (sp_w (b (8 + 5 * m + 1)) dy) (nI o) z VB = some (.inl (nI o, sp_w (b (8 + 5 * m)) dx, sp_w (b (8 + 5 * m + 1)) dy, (if h + 1 = 60 then (0 : Int32) else z), nI (h + 1), W)) ∧ cr_RM V0 W n ra c3 c4 c5 c7 (h + 1) (sp_wc (b (8 + 5 * m + 1)) dy (sp_wc (b (8 + 5 * m)) dx w)) (fun i => i == o || ht i) b := by
      intro z
      unfold f_X8_rolls_b227
      rw [cr_lt_e, cr_G4, cr_G4, cr_lt_e, cr_T4, cr_1, v2, q1, cr_pt_ne (show 160 ≠ 159 by omega), r1]
      have hRW : cr_RM V0 (cr_pt (cr_pt VB 159 9 (nI (v ||| 2 ^ o))) 160 4 (sp_ov b c3 (c4 + nI h) c5 (c7 + sp_wc (b (8 + 5 * m + 1)) dy (sp_wc (b (8 + 5 * m)) dx w)) 4 + 1)) n ra c3 c4 c5 c7 (h + 1) (sp_wc (b (8 + 5 * m + 1)) dy (sp_wc (b (8 + 5 * m)) dx w)) (fun i => i == o || ht i) b := by
        refine ⟨?_, ⟨v ||| 2 ^ o, q2, ?_, fun j hj => cr_bit_or (v3 j hj)⟩, fun j hj => ?_, fun c c1 c2 c3 => ?_, fun t ht => ?_⟩
        · rw [cr_pt_eq, cr_pt_ne (by omega), r1, sp_ov_4]
          have e : sp_ov b c3 (c4 + nI h) c5 (c7 + sp_wc (b (8 + 5 * m + 1)) dy (sp_wc (b (8 + 5 * m)) dx w)) 4 = c4 + nI h := rfl
          rw [e, Int32.add_assoc, cr_1]
        · rw [cr_pt_ne (by omega), cr_pv, if_pos ⟨rfl, rfl⟩]
        · rw [cr_pt_ne (by omega), cr_pt_ne (by omega)]; exact r3 j hj
        · rw [cr_pt_ne c2, cr_pt_ne c1]; exact r4 c c1 c2 c3
        · rw [cr_pt_ne (by omega), cr_pv, if_neg (by omega)]; exact r5 t ht
      by_cases h59 : h + 1 = 60
      · rw [if_pos h59, if_pos (show nI (h + 1) = (60 : Int32) by rw [h59]; rfl)]
        exact ⟨_, rfl, hRW⟩
      · rw [if_neg h59, if_neg (show ¬ nI (h + 1) = (60 : Int32) from fun e => h59 ((nI_eq (by omega) (by decide)).mp (e.trans cr_L60)))]
        exact ⟨_, rfl, hRW⟩
    rw [cr_marbleAt_s hBo r1 o1 (sp_ov_on.mpr o2), cr_bd_some, if_neg (cr_ne_m1006 (by omega)), cr_mp2 hm12, cr_bd_some, cr_mp2 ho12, cr_bd_some, r1, sp_ov_8 (by omega), sp_ov_8 (by omega), g1, p1, cr_gd_e (nI_ne0 (by omega) (by omega))]
    have hKo : sp_K n k o (sp_w (b (8 + 5 * m)) dx) (sp_w (b (8 + 5 * m + 1)) dy) (min 40 (S * sp_sz b m / sp_sz b o)) (h + 1) b := ⟨hB, o1, Nat.min_le_left _ _, by omega, dx1, dy1⟩
    by_cases hc : ((nI S * nI (sp_sz b m)) / nI (sp_sz b o)) ≤ (40 : Int32)
    · rw [if_pos hc] at ep ⊢
      rw [ep]
      obtain ⟨W, w1, w2⟩ := key (nI (min 40 (S * sp_sz b m / sp_sz b o)))
      exact ⟨W, w1, w2, hKo⟩
    · rw [if_neg hc] at ep ⊢
      rw [ep]
      obtain ⟨W, w1, w2⟩ := key (nI (min 40 (S * sp_sz b m / sp_sz b o)))
      exact ⟨W, w1, w2, hKo⟩
