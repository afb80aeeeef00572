/-! the law's roll: one step of numbers -/
theorem cr_lt_c {α β : Type} {e e' : α} {g : α → Option β} (h : e = e') : cr_lt e g = g e' := by subst h; rfl
theorem cr_R.fr {aq am ar n k : Nat} {V W : cr_Hp} {b : Nat → Int32} (h : cr_R aq am ar V b n k) (h1 : W aq = V aq) (h2 : W am = V am) (h3 : W ar = V ar) : cr_R aq am ar W b n k := ⟨fun t ht => by rw [h1]; exact h.1 t ht, fun j c hj hc => by rw [h2]; exact h.2.1 j c hj hc, fun r c hr hc => by rw [h3]; exact h.2.2 r c hr hc⟩
theorem cr_R.uq {aq am ar n k t : Nat} {V : cr_Hp} {b : Nat → Int32} {v : Int32} (h : cr_R aq am ar V b n k) (h1 : am ≠ aq) (h2 : ar ≠ aq) (ht : t < 8) : cr_R aq am ar (cr_pt V aq t v) (upd b t v) n k := by
  refine ⟨fun i hi => ?_, fun j c hj hc => ?_, fun r c hr hc => ?_⟩
  · rw [cr_pv, cr_uv]
    by_cases e : i = t
    · rw [if_pos ⟨rfl, e⟩, if_pos e]
    · rw [if_neg (fun h => e h.2), if_neg e]; exact h.1 i hi
  · rw [cr_pt_ne h1, cr_uv, if_neg (by omega)]; exact h.2.1 j c hj hc
  · rw [cr_pt_ne h2, cr_uv, if_neg (by omega)]; exact h.2.2 r c hr hc
theorem cr_R.um {aq am ar n k j c : Nat} {V : cr_Hp} {b : Nat → Int32} {v : Int32} (h : cr_R aq am ar V b n k) (h1 : aq ≠ am) (h2 : ar ≠ am) (hj : j < 12) (hc : c < 5) : cr_R aq am ar (cr_pt V am (5 * j + c) v) (upd b (8 + 5 * j + c) v) n k := by
  refine ⟨fun i hi => ?_, fun i d hi hd => ?_, fun r d hr hd => ?_⟩
  · rw [cr_pt_ne h1, cr_uv, if_neg (by omega)]; exact h.1 i hi
  · rw [cr_pv, cr_uv]
    by_cases e : 5 * i + d = 5 * j + c
    · rw [if_pos ⟨rfl, e⟩, if_pos (by omega)]
    · rw [if_neg (fun h => e h.2), if_neg (by omega)]; exact h.2.1 i d hi hd
  · rw [cr_pt_ne h2, cr_uv, if_neg (by omega)]; exact h.2.2 r d hr hd
theorem cr_R.ur {aq am ar n k r c : Nat} {V : cr_Hp} {b : Nat → Int32} {v : Int32} (h : cr_R aq am ar V b n k) (hn : n ≤ 12) (h1 : aq ≠ ar) (h2 : am ≠ ar) (hc : c < 3) : cr_R aq am ar (cr_pt V ar (3 * r + c) v) (upd b (68 + 3 * r + c) v) n k := by
  refine ⟨fun i hi => ?_, fun i d hi hd => ?_, fun i d hi hd => ?_⟩
  · rw [cr_pt_ne h1, cr_uv, if_neg (by omega)]; exact h.1 i hi
  · rw [cr_pt_ne h2, cr_uv, if_neg (by omega)]; exact h.2.1 i d hi hd
  · rw [cr_pv, cr_uv]
    by_cases e : 3 * i + d = 3 * r + c
    · rw [if_pos ⟨rfl, e⟩, if_pos (by omega)]
    · rw [if_neg (fun h => e h.2), if_neg (by omega)]; exact h.2.2 i d hi hd
/-- how many rings are entered or left -/
def sp_cd (b : Nat → Int32) (X Y x y : Int32) : Nat → Nat
  | 0 => 0
  | r + 1 => if (cr_out b r X Y ↔ cr_out b r x y) then sp_cd b X Y x y r else sp_cd b X Y x y r + 1
theorem cr_xor_b : ∀ r : Fin 4, ∀ s : Fin 8, ∀ t : Fin 8, s.val < 2 ^ r.val → t.val < 2 ^ r.val → sp_on ((nI s.val ||| ((1 : Int32) <<< (nI r.val &&& 31))) ^^^ (nI t.val ||| ((1 : Int32) <<< (nI r.val &&& 31)))) 4 = sp_on (nI s.val ^^^ nI t.val) 4 ∧ sp_on ((nI s.val ||| ((1 : Int32) <<< (nI r.val &&& 31))) ^^^ nI t.val) 4 = sp_on (nI s.val ^^^ nI t.val) 4 + 1 ∧ sp_on (nI s.val ^^^ (nI t.val ||| ((1 : Int32) <<< (nI r.val &&& 31)))) 4 = sp_on (nI s.val ^^^ nI t.val) 4 + 1 := by decide +kernel
theorem sp_cd_on {b : Nat → Int32} {X Y x y : Int32} : ∀ k : Nat, k ≤ 4 → sp_on (sp_rs b X Y k ^^^ sp_rs b x y k) 4 = nI (sp_cd b X Y x y k)
  | 0, _ => by
    have h : sp_on ((0 : Int32) ^^^ 0) 4 = nI 0 := by decide
    exact h
  | r + 1, hr => by
    have ih := sp_cd_on (b := b) (X := X) (Y := Y) (x := x) (y := y) r (by omega)
    obtain ⟨s, s1, s2⟩ := sp_rs_lt (b := b) (x := X) (y := Y) r (by omega)
    obtain ⟨t, t1, t2⟩ := sp_rs_lt (b := b) (x := x) (y := y) r (by omega)
    have p8 : 2 ^ r ≤ 8 := by
      have h3 : r = 0 ∨ r = 1 ∨ r = 2 ∨ r = 3 := by omega
      rcases h3 with rfl | rfl | rfl | rfl <;> decide
    obtain ⟨x1, x2, x3⟩ := cr_xor_b ⟨r, by omega⟩ ⟨s, by omega⟩ ⟨t, by omega⟩ s1 t1
    rw [s2, t2] at ih
    by_cases h1 : cr_out b r X Y
    · by_cases h2 : cr_out b r x y
      · simp only [sp_rs, if_pos h1, if_pos h2, sp_cd, if_pos (show cr_out b r X Y ↔ cr_out b r x y from ⟨fun _ => h2, fun _ => h1⟩)]
        rw [s2, t2]; exact ih
      · simp only [sp_rs, if_pos h1, if_neg h2, sp_cd, if_neg (show ¬ (cr_out b r X Y ↔ cr_out b r x y) from fun h => h2 (h.mp h1))]
        rw [s2, t2, ← cr_1, ← ih]; exact x3
    · by_cases h2 : cr_out b r x y
      · simp only [sp_rs, if_neg h1, if_pos h2, sp_cd, if_neg (show ¬ (cr_out b r X Y ↔ cr_out b r x y) from fun h => h1 (h.mpr h2))]
        rw [s2, t2, ← cr_1, ← ih]; exact x2
      · simp only [sp_rs, if_neg h1, if_neg h2, sp_cd, if_pos (show cr_out b r X Y ↔ cr_out b r x y from ⟨fun h => absurd h h1, fun h => absurd h h2⟩)]
        rw [s2, t2, ← ih]; exact x1
theorem cr_sub1 (z : Int32) (c : Nat) : (z - nI c) - (1 : Int32) = z - nI (c + 1) := by
  rw [← cr_1, Int32.sub_eq_add_neg, Int32.sub_eq_add_neg, Int32.sub_eq_add_neg, Int32.neg_add, Int32.add_assoc, Int32.sub_eq_add_neg]
theorem cr_sub0 (z : Int32) : z - (0 : Int32) = z := by
  rw [Int32.sub_eq_add_neg, show -(0 : Int32) = 0 by decide, Int32.add_zero]
theorem cr_Lcost {aq am ar a7 a2 a8 n k m : Nat} {V : cr_Hp} {b : Nat → Int32} {x0 x14 r155 r171 X Y z0 : Int32} (hB : cr_B b n k) (hR : cr_R aq am ar V b n k) (hm : m < n) : cr_it (fun (q : Int32 × Int32) => f_L_flick_l326 aq am ar a7 a2 a8 x0 (nI m) x14 r155 r171 X Y q.1 q.2 V) cr_FU (z0, (0 : Int32)) = some (z0 - nI (sp_cd b X Y (b (8 + 5 * m)) (b (8 + 5 * m + 1)) k)) := by
  have hn := hB.1
  have hk := hB.2.1
  have h12 : m < 12 := by omega
  refine cr_it_for (fun i => (z0 - nI (sp_cd b X Y (b (8 + 5 * m)) (b (8 + 5 * m + 1)) i), nI i)) k (by show (z0, (0 : Int32)) = (z0 - (0 : Int32), (0 : Int32)); rw [cr_sub0]) ?_ ?_ (by omega)
  · intro i hi
    show f_L_flick_l326 aq am ar a7 a2 a8 x0 (nI m) x14 r155 r171 X Y (z0 - nI (sp_cd b X Y (b (8 + 5 * m)) (b (8 + 5 * m + 1)) i)) (nI i) V = some (.inl (z0 - nI (sp_cd b X Y (b (8 + 5 * m)) (b (8 + 5 * m + 1)) (i + 1)), nI (i + 1)))
    unfold f_L_flick_l326
    rw [cr_H1, cr_T1, hR.q 1 (by decide), hB.2.2.2.1, if_neg (nI_ge hi (by omega)), cr_Lin hk hR hi, cr_bd_some, cr_g50 h12, cr_t50 h12, cr_g51 h12, cr_t51 h12, hR.m0 hm, hR.m1 hm, cr_Lin hk hR hi, cr_bd_some, cr_1, cr_sub0, cr_sub1]
    by_cases h1 : cr_out b i X Y
    · by_cases h2 : cr_out b i (b (8 + 5 * m)) (b (8 + 5 * m + 1))
      · rw [if_pos h1, if_pos h2, if_pos rfl]
        simp only [sp_cd, if_pos (show cr_out b i X Y ↔ cr_out b i (b (8 + 5 * m)) (b (8 + 5 * m + 1)) from ⟨fun _ => h2, fun _ => h1⟩)]
      · rw [if_pos h1, if_neg h2, if_neg (by decide)]
        simp only [sp_cd, if_neg (show ¬ (cr_out b i X Y ↔ cr_out b i (b (8 + 5 * m)) (b (8 + 5 * m + 1))) from fun h => h2 (h.mp h1))]
    · by_cases h2 : cr_out b i (b (8 + 5 * m)) (b (8 + 5 * m + 1))
      · rw [if_neg h1, if_pos h2, if_neg (by decide)]
        simp only [sp_cd, if_neg (show ¬ (cr_out b i X Y ↔ cr_out b i (b (8 + 5 * m)) (b (8 + 5 * m + 1))) from fun h => h1 (h.mpr h2))]
      · rw [if_neg h1, if_neg h2, if_pos rfl]
        simp only [sp_cd, if_pos (show cr_out b i X Y ↔ cr_out b i (b (8 + 5 * m)) (b (8 + 5 * m + 1)) from ⟨fun h => absurd h h1, fun h => absurd h h2⟩)]
  · show f_L_flick_l326 aq am ar a7 a2 a8 x0 (nI m) x14 r155 r171 X Y (z0 - nI (sp_cd b X Y (b (8 + 5 * m)) (b (8 + 5 * m + 1)) k)) (nI k) V = _
    unfold f_L_flick_l326
    rw [cr_H1, cr_T1, hR.q 1 (by decide), hB.2.2.2.1, if_pos (nI_le (Nat.le_refl k) (by omega))]
theorem cr_Lcost_c : ∀ S : Fin 41, ∀ c : Fin 5, 1 ≤ S.val → (S.val - 1 - c.val = 0 → (nI S.val + (-1 : Int32)) - nI c.val ≤ 0) ∧ (¬ S.val - 1 - c.val = 0 → (nI S.val + (-1 : Int32)) - nI c.val = nI (S.val - 1 - c.val)) := by decide +kernel
theorem cr_Lw1 {X : Nat} {d w : Int32} (hX : X ≤ 30) (hd : sp_d d) : (sp_w (nI X) d = d → sp_wc (nI X) d w = w) ∧ (¬ sp_w (nI X) d = d → sp_wc (nI X) d w = w + 1) := by
  unfold sp_w sp_wc
  by_cases hc : ¬ (nI X + d) < 0 ∧ ¬ (30 : Int32) < (nI X + d)
  · rw [if_pos hc, if_pos hc]
    exact ⟨fun _ => rfl, fun h => absurd rfl h⟩
  · rw [if_neg hc, if_neg hc]
    refine ⟨fun h => ?_, fun _ => rfl⟩
    rcases hd with rfl | rfl | rfl
    · exact absurd h (by decide)
    · exact absurd ⟨by rw [Int32.add_zero]; exact cr_nn (by omega), by rw [Int32.add_zero]; exact cr_n30 (by omega)⟩ hc
    · exact absurd h (by decide)
def cr_RL (B : Nat) (V0 V : cr_Hp) (n k : Nat) (ra : Nat → Int32) (c3 c4 c5 c7 : Int32) (h : Nat) (w : Int32) (ht : Nat → Bool) (b : Nat → Int32) : Prop :=
  cr_R B (B + 1) (B + 2) V (sp_ov b c3 c4 c5 (c7 + w)) n k ∧ (∀ j, j < n → V (B + 4) j = ra j) ∧ (∀ j, j < n → ∃ cnt, cnt ≤ h ∧ V (B + 5) j = nI cnt ∧ (ht j = true ↔ 0 < cnt)) ∧ ∀ c, c < B ∨ B + 6 ≤ c → V c = V0 c
theorem cr_ov_7 {b : Nat → Int32} {c3 c4 c5 c7 : Int32} : sp_ov b c3 c4 c5 c7 7 = c7 := rfl
theorem cr_Lwalls {B n k m S h : Nat} {V0 V : cr_Hp} {ra : Nat → Int32} {c3 c4 c5 c7 x0 : Int32} {dx dy w : Int32} {ht : Nat → Bool} {b : Nat → Int32} (hK : sp_K n k m dx dy S h b) (hR : cr_RL B V0 V n k ra c3 c4 c5 c7 h w ht b) (h1 : 1 ≤ S) (h60 : h < 60) :
    ∃ z0 z1 : Int32, f_L_flick_l134 B (B + 1) (B + 2) (B + 3) (B + 4) (B + 5) x0 dx dy (nI m) (nI S) (nI h) V = f_L_flick_b206 B (B + 1) (B + 2) (B + 3) (B + 4) (B + 5) x0 (nI m) (nI S) (nI h) (sp_w (b (8 + 5 * m)) dx) (sp_w (b (8 + 5 * m + 1)) dy) z0 (c7 + w) z1 V ∧ (c7 + w) + (z0 + z1) = c7 + sp_wc (b (8 + 5 * m + 1)) dy (sp_wc (b (8 + 5 * m)) dx w) := by
  obtain ⟨hB, hm, hS, hh, d1, d2⟩ := hK
  obtain ⟨r1, r2, r3, r4⟩ := hR
  have hn := hB.1
  have h12 : m < 12 := by omega
  obtain ⟨X, Y, s, o, hX, hY, -, -, -, eX, eY, -, -, -⟩ := hB.2.2.2.2.2.1 m hm
  have m0 : V (B + 1) (5 * m) = b (8 + 5 * m) := (r1.m0 hm).trans (sp_ov_8 (by omega))
  have m1 : V (B + 1) (5 * m + 1) = b (8 + 5 * m + 1) := (r1.m1 hm).trans (sp_ov_8 (by omega))
  have q7 : V B 7 = c7 + w := r1.q 7 (by decide)
  obtain ⟨a1, a2⟩ := cr_Lw1 (X := X) (d := dx) (w := w) hX d1
  obtain ⟨a3, a4⟩ := cr_Lw1 (X := Y) (d := dy) (w := sp_wc (b (8 + 5 * m)) dx w) hY d2
  rw [← eX] at a1 a2
  rw [← eY] at a3 a4
  unfold f_L_flick_l134
  rw [if_neg (nI_nle (by omega) (by omega)), if_neg (show ¬ (60 : Int32) ≤ nI h by rw [cr_L60]; exact nI_ge h60 (by decide)), cr_g50 h12, cr_t50 h12, m0, cr_Lturn, cr_bd_some, cr_g51 h12, cr_t51 h12, m1, cr_Lturn, cr_bd_some, cr_H7, cr_T7, q7]
  unfold f_L_flick_b194
  by_cases b1 : sp_w (b (8 + 5 * m)) dx = dx
  · by_cases b2 : sp_w (b (8 + 5 * m + 1)) dy = dy
    · refine ⟨0, 0, by rw [if_pos b1, if_pos b2], ?_⟩
      rw [a3 b2, a1 b1, Int32.add_zero, Int32.add_zero]
    · refine ⟨0, 1, by rw [if_pos b1, if_neg b2], ?_⟩
      rw [a4 b2, a1 b1, Int32.zero_add, Int32.add_assoc]
  · by_cases b2 : sp_w (b (8 + 5 * m + 1)) dy = dy
    · refine ⟨1, 0, by rw [if_neg b1, if_pos b2], ?_⟩
      rw [a3 b2, a2 b1, Int32.add_zero, Int32.add_assoc]
    · refine ⟨1, 1, by rw [if_neg b1, if_neg b2], ?_⟩
      rw [a4 b2, a2 b1, Int32.add_assoc, Int32.add_assoc]
theorem cr_Lstep {B n k m S h : Nat} {V0 V : cr_Hp} {ra : Nat → Int32} {c3 c4 c5 c7 x0 : Int32} {dx dy w : Int32} {ht : Nat → Bool} {b : Nat → Int32} (hK : sp_K n k m dx dy S h b) (hR : cr_RL B V0 V n k ra c3 c4 c5 c7 h w ht b) (h1 : 1 ≤ S) (h60 : h < 60) :
    (sp_at b (b (8 + 5 * m) + sp_w (b (8 + 5 * m)) dx) (b (8 + 5 * m + 1) + sp_w (b (8 + 5 * m + 1)) dy) n = 99 → ∃ W, f_L_flick_l134 B (B + 1) (B + 2) (B + 3) (B + 4) (B + 5) x0 dx dy (nI m) (nI S) (nI h) V = some (.inl (sp_w (b (8 + 5 * m)) dx, sp_w (b (8 + 5 * m + 1)) dy, nI m, (nI S + (-1 : Int32)) - nI (sp_ct b k (b (8 + 5 * m)) (b (8 + 5 * m + 1)) (b (8 + 5 * m) + sp_w (b (8 + 5 * m)) dx) (b (8 + 5 * m + 1) + sp_w (b (8 + 5 * m + 1)) dy)), nI h, W)) ∧ cr_RL B V0 W n k ra c3 c4 c5 c7 h (sp_wc (b (8 + 5 * m + 1)) dy (sp_wc (b (8 + 5 * m)) dx w)) ht (sp_mv b m (b (8 + 5 * m) + sp_w (b (8 + 5 * m)) dx) (b (8 + 5 * m + 1) + sp_w (b (8 + 5 * m + 1)) dy)) ∧ sp_K n k m (sp_w (b (8 + 5 * m)) dx) (sp_w (b (8 + 5 * m + 1)) dy) (S - 1 - sp_ct b k (b (8 + 5 * m)) (b (8 + 5 * m + 1)) (b (8 + 5 * m) + sp_w (b (8 + 5 * m)) dx) (b (8 + 5 * m + 1) + sp_w (b (8 + 5 * m + 1)) dy)) h (sp_mv b m (b (8 + 5 * m) + sp_w (b (8 + 5 * m)) dx) (b (8 + 5 * m + 1) + sp_w (b (8 + 5 * m + 1)) dy)) ∧ sp_ct b k (b (8 + 5 * m)) (b (8 + 5 * m + 1)) (b (8 + 5 * m) + sp_w (b (8 + 5 * m)) dx) (b (8 + 5 * m + 1) + sp_w (b (8 + 5 * m + 1)) dy) ≤ 4) ∧
    (¬ sp_at b (b (8 + 5 * m) + sp_w (b (8 + 5 * m)) dx) (b (8 + 5 * m + 1) + sp_w (b (8 + 5 * m + 1)) dy) n = 99 → ∃ W, f_L_flick_l134 B (B + 1) (B + 2) (B + 3) (B + 4) (B + 5) x0 dx dy (nI m) (nI S) (nI h) V = some (.inl (sp_w (b (8 + 5 * m)) dx, sp_w (b (8 + 5 * m + 1)) dy, nI (sp_at b (b (8 + 5 * m) + sp_w (b (8 + 5 * m)) dx) (b (8 + 5 * m + 1) + sp_w (b (8 + 5 * m + 1)) dy) n), nI (min 40 (S * sp_sz b m / sp_sz b (sp_at b (b (8 + 5 * m) + sp_w (b (8 + 5 * m)) dx) (b (8 + 5 * m + 1) + sp_w (b (8 + 5 * m + 1)) dy) n))), nI (h + 1), W)) ∧ cr_RL B V0 W n k ra c3 c4 c5 c7 (h + 1) (sp_wc (b (8 + 5 * m + 1)) dy (sp_wc (b (8 + 5 * m)) dx w)) (fun i => i == sp_at b (b (8 + 5 * m) + sp_w (b (8 + 5 * m)) dx) (b (8 + 5 * m + 1) + sp_w (b (8 + 5 * m + 1)) dy) n || ht i) b ∧ sp_K n k (sp_at b (b (8 + 5 * m) + sp_w (b (8 + 5 * m)) dx) (b (8 + 5 * m + 1) + sp_w (b (8 + 5 * m + 1)) dy) n) (sp_w (b (8 + 5 * m)) dx) (sp_w (b (8 + 5 * m + 1)) dy) (min 40 (S * sp_sz b m / sp_sz b (sp_at b (b (8 + 5 * m) + sp_w (b (8 + 5 * m)) dx) (b (8 + 5 * m + 1) + sp_w (b (8 + 5 * m + 1)) dy) n))) (h + 1) b) := by
  obtain ⟨x, y, hx, hy, ex, ey, dx1, dy1⟩ := sp_K_turn hK
  obtain ⟨z0, z1, e1, e2⟩ := cr_Lwalls (x0 := x0) hK hR h1 h60
  obtain ⟨hB, hm, hS, hh, -, -⟩ := hK
  obtain ⟨r1, r2, r3, r4⟩ := hR
  have hn := hB.1
  have hk := hB.2.1
  have h12 : m < 12 := by omega
  rw [e1]
  unfold f_L_flick_b206
  rw [cr_H7, cr_T7, e2, cr_lt_e]
  obtain ⟨w', ew⟩ : ∃ w', w' = sp_wc (b (8 + 5 * m + 1)) dy (sp_wc (b (8 + 5 * m)) dx w) := ⟨_, rfl⟩
  rw [← ew]
  obtain ⟨V1, eV1⟩ : ∃ V1, V1 = cr_pt V B 7 (c7 + w') := ⟨_, rfl⟩
  rw [← eV1]
  have f1 : ∀ c, c ≠ B → V1 c = V c := fun c hc => by rw [eV1, cr_pt_ne hc]
  have R1 : cr_R B (B + 1) (B + 2) V1 (sp_ov b c3 c4 c5 (c7 + w')) n k := by
    have := r1.uq (t := 7) (v := c7 + w') (by omega) (by omega) (by decide)
    rw [sp_ov_7] at this
    rw [eV1]; exact this
  have hBo : cr_B (sp_ov b c3 c4 c5 (c7 + w')) n k := cr_B_ov hB
  have m0 : V1 (B + 1) (5 * m) = b (8 + 5 * m) := (R1.m0 hm).trans (sp_ov_8 (by omega))
  have m1 : V1 (B + 1) (5 * m + 1) = b (8 + 5 * m + 1) := (R1.m1 hm).trans (sp_ov_8 (by omega))
  have m2 : V1 (B + 1) (5 * m + 2) = b (8 + 5 * m + 2) := (R1.m2 hm).trans (sp_ov_8 (by omega))
  have eX : V1 (B + 1) ((5 : Int32) * nI m).toNatClampNeg + sp_w (b (8 + 5 * m)) dx = b (8 + 5 * m) + sp_w (b (8 + 5 * m)) dx := by rw [cr_t50 h12, m0]
  have eY : V1 (B + 1) (((5 : Int32) * nI m) + (1 : Int32)).toNatClampNeg + sp_w (b (8 + 5 * m + 1)) dy = b (8 + 5 * m + 1) + sp_w (b (8 + 5 * m + 1)) dy := by rw [cr_t51 h12, m1]
  rw [cr_g50 h12, cr_lt_c eX, cr_g51 h12, cr_lt_c eY]
  constructor
  · intro hat
    have ho := sp_at_n n (by omega) hat
    obtain ⟨-, c2, c3'⟩ := cr_cost (b := b) (X := b (8 + 5 * m)) (Y := b (8 + 5 * m + 1)) (x := b (8 + 5 * m) + sp_w (b (8 + 5 * m)) dx) (y := b (8 + 5 * m + 1) + sp_w (b (8 + 5 * m + 1)) dy) hk
    have ec : nI (sp_cd (sp_ov b c3 c4 c5 (c7 + w')) (b (8 + 5 * m) + sp_w (b (8 + 5 * m)) dx) (b (8 + 5 * m + 1) + sp_w (b (8 + 5 * m + 1)) dy) (sp_ov b c3 c4 c5 (c7 + w') (8 + 5 * m)) (sp_ov b c3 c4 c5 (c7 + w') (8 + 5 * m + 1)) k) = nI (sp_ct b k (b (8 + 5 * m)) (b (8 + 5 * m + 1)) (b (8 + 5 * m) + sp_w (b (8 + 5 * m)) dx) (b (8 + 5 * m + 1) + sp_w (b (8 + 5 * m + 1)) dy)) := by
      rw [← sp_cd_on k hk, sp_ov_rs, sp_ov_rs, sp_ov_8 (by omega), sp_ov_8 (by omega), Int32.xor_comm]
      exact c2
    have hc := cr_Lcost (a7 := B + 3) (a2 := B + 4) (a8 := B + 5) (x0 := x0) (x14 := nI h) (r155 := sp_w (b (8 + 5 * m)) dx) (r171 := sp_w (b (8 + 5 * m + 1)) dy) (X := b (8 + 5 * m) + sp_w (b (8 + 5 * m)) dx) (Y := b (8 + 5 * m + 1) + sp_w (b (8 + 5 * m + 1)) dy) (z0 := nI S + (-1 : Int32)) hBo R1 hm
    have hc2 : cr_it (fun (q : Int32 × Int32) => f_L_flick_l326 B (B + 1) (B + 2) (B + 3) (B + 4) (B + 5) x0 (nI m) (nI h) (sp_w (b (8 + 5 * m)) dx) (sp_w (b (8 + 5 * m + 1)) dy) (b (8 + 5 * m) + sp_w (b (8 + 5 * m)) dx) (b (8 + 5 * m + 1) + sp_w (b (8 + 5 * m + 1)) dy) q.1 q.2 V1) cr_FU (nI S + (-1 : Int32), (0 : Int32)) = some ((nI S + (-1 : Int32)) - nI (sp_ct b k (b (8 + 5 * m)) (b (8 + 5 * m + 1)) (b (8 + 5 * m) + sp_w (b (8 + 5 * m)) dx) (b (8 + 5 * m + 1) + sp_w (b (8 + 5 * m + 1)) dy))) := by
      rw [← ec]; exact hc
    rw [cr_Lat_n hBo R1 (fun i hi h => ho i hi (sp_ov_on.mp h)), cr_bd_some, if_pos (by decide), hc2, cr_bd_some, cr_g50 h12, cr_lt_c (show cr_pt V1 (B + 1) ((5 : Int32) * nI m).toNatClampNeg (b (8 + 5 * m) + sp_w (b (8 + 5 * m)) dx) = cr_pt V1 (B + 1) (5 * m) (b (8 + 5 * m) + sp_w (b (8 + 5 * m)) dx) by rw [cr_t50 h12]), cr_g51 h12, cr_lt_e, cr_t51 h12]
    refine ⟨_, rfl, ⟨?_, fun j hj => ?_, fun j hj => ?_, fun c hc => ?_⟩, ⟨?_, hm, by omega, hh, dx1, dy1⟩, c3'⟩
    · have q1 := (R1.um (j := m) (c := 0) (v := b (8 + 5 * m) + sp_w (b (8 + 5 * m)) dx) (by omega) (by omega) h12 (by decide)).um (j := m) (c := 1) (v := b (8 + 5 * m + 1) + sp_w (b (8 + 5 * m + 1)) dy) (by omega) (by omega) h12 (by decide)
      have e3 : upd (upd (sp_ov b c3 c4 c5 (c7 + w')) (8 + 5 * m + 0) (b (8 + 5 * m) + sp_w (b (8 + 5 * m)) dx)) (8 + 5 * m + 1) (b (8 + 5 * m + 1) + sp_w (b (8 + 5 * m + 1)) dy) = sp_ov (sp_mv b m (b (8 + 5 * m) + sp_w (b (8 + 5 * m)) dx) (b (8 + 5 * m + 1) + sp_w (b (8 + 5 * m + 1)) dy)) c3 c4 c5 (c7 + w') := by
        rw [sp_ov_u (by omega), sp_ov_u (by omega)]; rfl
      rw [e3] at q1
      exact q1
    · rw [cr_pt_ne (by omega), cr_pt_ne (by omega), f1 _ (by omega)]; exact r2 j hj
    · rw [cr_pt_ne (by omega), cr_pt_ne (by omega), f1 _ (by omega)]; exact r3 j hj
    · rw [cr_pt_ne (by omega), cr_pt_ne (by omega), f1 _ (by omega)]; exact r4 c hc
    · rw [ex, ey]
      exact cr_B_mv hB hm hx hy (by rw [← ex, ← ey]; exact ho)
  · intro hat
    obtain ⟨o1, o2⟩ := sp_at_s n hat
    obtain ⟨o, eo⟩ : ∃ o, o = sp_at b (b (8 + 5 * m) + sp_w (b (8 + 5 * m)) dx) (b (8 + 5 * m + 1) + sp_w (b (8 + 5 * m + 1)) dy) n := ⟨_, rfl⟩
    rw [← eo] at o1 o2 ⊢
    have ho12 : o < 12 := by omega
    obtain ⟨g1, g2, g3⟩ := cr_size hB hm
    obtain ⟨p1, p2, p3⟩ := cr_size hB o1
    have o2v : V1 (B + 1) (5 * o + 2) = b (8 + 5 * o + 2) := (R1.m2 o1).trans (sp_ov_8 (by omega))
    have ep := cr_pass_m ⟨S, by omega⟩ ⟨sp_sz b m, by omega⟩ ⟨sp_sz b o, by omega⟩ p2
    have ep : (if ((nI S * nI (sp_sz b m)) / nI (sp_sz b o)) ≤ (40 : Int32) then ((nI S * nI (sp_sz b m)) / nI (sp_sz b o)) else (40 : Int32)) = nI (min 40 (S * sp_sz b m / sp_sz b o)) := ep
    obtain ⟨cnt, k1, k2, k3⟩ := r3 o o1
    have key : ∀ z : Int32, ∃ W, f_L_flick_b299 B (B + 1) (B + 2) (B + 3) (B + 4) (B + 5) x0 (nI h) (sp_w (b (8 + 5 * m)) dx) (sp_w (b (8 + 5 * m + 1)) dy) (nI o) z V1 = some (.inl (sp_w (b (8 + 5 * m)) dx, sp_w (b (8 + 5 * m + 1)) dy, nI o, z, nI (h + 1), W)) ∧ cr_RL B V0 W n k ra c3 c4 c5 c7 (h + 1) w' (fun i => i == o || ht i) b := by
      intro z
      unfold f_L_flick_b299
      rw [cr_gz ho12 (by decide), cr_gz ho12 (by decide), nI_clamp (by omega), cr_lt_e, f1 _ (by omega), k2, cr_1, cr_1]
      refine ⟨_, rfl, R1.fr (cr_pt_ne (by omega)) (cr_pt_ne (by omega)) (cr_pt_ne (by omega)), fun j hj => ?_, fun j hj => ?_, fun c hc => ?_⟩
      · rw [cr_pt_ne (by omega), f1 _ (by omega)]; exact r2 j hj
      · by_cases hjo : j = o
        · refine ⟨cnt + 1, by omega, by rw [cr_pv, if_pos ⟨rfl, hjo⟩], ?_⟩
          simp [hjo]
        · obtain ⟨cn, l1, l2, l3⟩ := r3 j hj
          refine ⟨cn, by omega, by rw [cr_pv, if_neg (fun h => hjo h.2), f1 _ (by omega)]; exact l2, ?_⟩
          simp [hjo, l3]
      · rw [cr_pt_ne (by omega), f1 _ (by omega)]; exact r4 c hc
    rw [cr_Lat_s hBo R1 o1 (sp_ov_on.mpr o2), cr_bd_some, if_neg (cr_nn (by omega)), cr_g52 h12, cr_g52 ho12, cr_gd_e (show ¬ V1 (B + 1) (((5 : Int32) * nI o) + (2 : Int32)).toNatClampNeg = 0 by rw [cr_t52 ho12, o2v, p1]; exact nI_ne0 (by omega) (by omega)), cr_lt_c (show (nI S * V1 (B + 1) (((5 : Int32) * nI m) + (2 : Int32)).toNatClampNeg) / V1 (B + 1) (((5 : Int32) * nI o) + (2 : Int32)).toNatClampNeg = (nI S * nI (sp_sz b m)) / nI (sp_sz b o) by rw [cr_t52 h12, m2, cr_t52 ho12, o2v, g1, p1])]
    have hKo : sp_K n k o (sp_w (b (8 + 5 * m)) dx) (sp_w (b (8 + 5 * m + 1)) dy) (min 40 (S * sp_sz b m / sp_sz b o)) (h + 1) b := ⟨hB, o1, Nat.min_le_left _ _, by omega, dx1, dy1⟩
    by_cases hc : ((nI S * nI (sp_sz b m)) / nI (sp_sz b o)) ≤ (40 : Int32)
    · rw [if_pos hc] at ep ⊢
      rw [ep]
      obtain ⟨W, w1, w2⟩ := key (nI (min 40 (S * sp_sz b m / sp_sz b o)))
      exact ⟨W, w1, w2, hKo⟩
    · rw [if_neg hc] at ep ⊢
      rw [ep]
      obtain ⟨W, w1, w2⟩ := key (nI (min 40 (S * sp_sz b m / sp_sz b o)))
      exact ⟨W, w1, w2, hKo⟩
theorem cr_Lroll {B n k : Nat} {V0 : cr_Hp} {ra : Nat → Int32} {c3 c4 c5 c7 x0 : Int32} : ∀ (fuel m S h : Nat) (dx dy w z : Int32) (ht : Nat → Bool) (b : Nat → Int32) (V : cr_Hp), sp_K n k m dx dy S h b → cr_RL B V0 V n k ra c3 c4 c5 c7 h w ht b → (60 - h) * 41 + S < fuel → (S = 0 → z ≤ 0) → (¬ S = 0 → z = nI S) →
    ∃ m' dx' dy' S' h' w' ht' b' V', sp_E n k (m, dx, dy, S, h, w, ht, b) (m', dx', dy', S', h', w', ht', b') ∧ cr_it (fun (q : Int32 × Int32 × Int32 × Int32 × Int32 × cr_Hp) => f_L_flick_l134 B (B + 1) (B + 2) (B + 3) (B + 4) (B + 5) x0 q.1 q.2.1 q.2.2.1 q.2.2.2.1 q.2.2.2.2.1 q.2.2.2.2.2) fuel (dx, dy, nI m, z, nI h, V) = some (nI m', nI h', V') ∧ cr_RL B V0 V' n k ra c3 c4 c5 c7 h' w' ht' b' ∧ sp_K n k m' dx' dy' S' h' b'
  | 0, m, S, h, dx, dy, w, z, ht, b, V, _, _, hf, _, _ => by omega
  | fuel + 1, m, S, h, dx, dy, w, z, ht, b, V, hK, hR, hf, z0, z1 => by
    by_cases he : S = 0 ∨ 60 ≤ h
    · refine ⟨m, dx, dy, S, h, w, ht, b, V, sp_E_end he, ?_, hR, hK⟩
      refine cr_it_r ?_
      show f_L_flick_l134 B (B + 1) (B + 2) (B + 3) (B + 4) (B + 5) x0 dx dy (nI m) z (nI h) V = _
      unfold f_L_flick_l134
      by_cases hs : S = 0
      · rw [if_pos (z0 hs)]
      · have h60 : 60 ≤ h := he.resolve_left hs
        have hh := hK.2.2.2.1
        rw [z1 hs, if_neg (nI_nle (by omega) (by have := hK.2.2.1; omega)), if_pos (show (60 : Int32) ≤ nI h by rw [cr_L60]; exact nI_le h60 (by omega))]
    · have hs : ¬ S = 0 := fun h => he (Or.inl h)
      have ez := z1 hs
      subst ez
      have hne : ¬ sp_end (m, dx, dy, S, h, w, ht, b) := he
      have hS1 : 1 ≤ S := by omega
      have hS40 := hK.2.2.1
      obtain ⟨s1, s2⟩ := cr_Lstep (x0 := x0) hK hR hS1 (by omega)
      by_cases hat : sp_at b (b (8 + 5 * m) + sp_w (b (8 + 5 * m)) dx) (b (8 + 5 * m + 1) + sp_w (b (8 + 5 * m + 1)) dy) n = 99
      · obtain ⟨W, e, hR2, hK2, hc⟩ := s1 hat
        obtain ⟨d1, d2⟩ := cr_Lcost_c ⟨S, by omega⟩ ⟨_, Nat.lt_succ_of_le hc⟩ hS1
        obtain ⟨m', dx', dy', S', h', w', ht', b', V', i1, i2, i3, i4⟩ := cr_Lroll fuel m _ h _ _ _ _ ht _ W hK2 hR2 (by omega) d1 d2
        exact ⟨m', dx', dy', S', h', w', ht', b', V', sp_E_step hne (by rw [sp_step_m hat]; exact i1), (cr_it_l e).trans i2, i3, i4⟩
      · obtain ⟨W, e, hR2, hK2⟩ := s2 hat
        obtain ⟨m', dx', dy', S', h', w', ht', b', V', i1, i2, i3, i4⟩ := cr_Lroll fuel _ _ (h + 1) _ _ _ _ _ _ W hK2 hR2 (by have := hK2.2.2.1; omega) (fun h => by rw [h]; decide) (fun _ => rfl)
        exact ⟨m', dx', dy', S', h', w', ht', b', V', sp_E_step hne (by rw [sp_step_h hat]; exact i1), (cr_it_l e).trans i2, i3, i4⟩
