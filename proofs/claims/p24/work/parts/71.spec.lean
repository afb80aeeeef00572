/-! a roll, as steps of numbers -/
def sp_w (X d : Int32) : Int32 := if ¬ (X + d) < 0 ∧ ¬ (30 : Int32) < (X + d) then d else -d
def sp_wc (X d w : Int32) : Int32 := if ¬ (X + d) < 0 ∧ ¬ (30 : Int32) < (X + d) then w else w + 1
def sp_at (b : Nat → Int32) (x y : Int32) : Nat → Nat
  | 0 => 99
  | i + 1 => if b (8 + 5 * i + 4) = -1006 ∧ b (8 + 5 * i) = x ∧ b (8 + 5 * i + 1) = y then i else sp_at b x y i
def sp_ct (b : Nat → Int32) (k : Nat) (X Y x y : Int32) : Nat := (sp_on (sp_rs b X Y k ^^^ sp_rs b x y k) 4).toNatClampNeg
def sp_sz (b : Nat → Int32) (j : Nat) : Nat := (b (8 + 5 * j + 2)).toNatClampNeg
abbrev sp_T : Type := Nat × Int32 × Int32 × Nat × Nat × Int32 × (Nat → Bool) × (Nat → Int32)
/-- the second half of a step: the direction is turned -/
def sp_mo (n k : Nat) (m : Nat) (dx dy : Int32) (S h : Nat) (w : Int32) (ht : Nat → Bool) (b : Nat → Int32) : sp_T :=
  if sp_at b (b (8 + 5 * m) + dx) (b (8 + 5 * m + 1) + dy) n = 99 then
    (m, dx, dy, S - 1 - sp_ct b k (b (8 + 5 * m)) (b (8 + 5 * m + 1)) (b (8 + 5 * m) + dx) (b (8 + 5 * m + 1) + dy), h, w, ht, sp_mv b m (b (8 + 5 * m) + dx) (b (8 + 5 * m + 1) + dy))
  else
    (sp_at b (b (8 + 5 * m) + dx) (b (8 + 5 * m + 1) + dy) n, dx, dy, min 40 (S * sp_sz b m / sp_sz b (sp_at b (b (8 + 5 * m) + dx) (b (8 + 5 * m + 1) + dy) n)), h + 1, w, fun i => i == sp_at b (b (8 + 5 * m) + dx) (b (8 + 5 * m + 1) + dy) n || ht i, b)
def sp_step (n k : Nat) : sp_T → sp_T
  | (m, dx, dy, S, h, w, ht, b) => sp_mo n k m (sp_w (b (8 + 5 * m)) dx) (sp_w (b (8 + 5 * m + 1)) dy) S h (sp_wc (b (8 + 5 * m + 1)) dy (sp_wc (b (8 + 5 * m)) dx w)) ht b
abbrev sp_end (q : sp_T) : Prop := q.2.2.2.1 = 0 ∨ 60 ≤ q.2.2.2.2.1
def sp_go (n k : Nat) : Nat → sp_T → sp_T
  | 0, q => q
  | f + 1, q => if sp_end q then q else sp_go n k f (sp_step n k q)
def sp_E (n k : Nat) (q z : sp_T) : Prop := ∃ f, sp_go n k f q = z ∧ sp_end z
theorem sp_E_end {n k : Nat} {q : sp_T} (h : sp_end q) : sp_E n k q q := ⟨0, rfl, h⟩
theorem sp_E_step {n k : Nat} {q z : sp_T} (h : ¬ sp_end q) (hz : sp_E n k (sp_step n k q) z) : sp_E n k q z := by
  obtain ⟨f, h1, h2⟩ := hz
  refine ⟨f + 1, ?_, h2⟩
  unfold sp_go
  rw [if_neg h]; exact h1
theorem sp_go_end {n k : Nat} {q : sp_T} (h : sp_end q) : ∀ f, sp_go n k f q = q
  | 0 => rfl
  | f + 1 => by unfold sp_go; rw [if_pos h]
theorem sp_go_add {n k : Nat} : ∀ (f g : Nat) (q : sp_T), f ≤ g → sp_end (sp_go n k f q) → sp_go n k g q = sp_go n k f q
  | 0, g, q, _, h => sp_go_end h g
  | f + 1, 0, q, hg, h => by omega
  | f + 1, g + 1, q, hg, h => by
    unfold sp_go at h ⊢
    by_cases hq : sp_end q
    · rw [if_pos hq, if_pos hq]
    · rw [if_neg hq] at h ⊢
      rw [if_neg hq]
      exact sp_go_add f g _ (by omega) h
theorem sp_E_det {n k : Nat} {q z z' : sp_T} (h : sp_E n k q z) (h' : sp_E n k q z') : z = z' := by
  obtain ⟨f, h1, h2⟩ := h
  obtain ⟨g, h3, h4⟩ := h'
  subst h1
  subst h3
  rcases Nat.le_total f g with hfg | hfg
  · exact (sp_go_add f g q hfg h2).symm
  · exact sp_go_add g f q hfg h4
abbrev sp_d (d : Int32) : Prop := d = -1 ∨ d = 0 ∨ d = 1
def sp_K (n k : Nat) (m : Nat) (dx dy : Int32) (S h : Nat) (b : Nat → Int32) : Prop := cr_B b n k ∧ m < n ∧ S ≤ 40 ∧ h ≤ 60 ∧ sp_d dx ∧ sp_d dy
theorem cr_turn0 : ∀ X : Fin 31, ((∃ x : Fin 31, nI X.val + sp_w (nI X.val) (-1) = nI x.val) ∧ sp_d (sp_w (nI X.val) (-1))) ∧ ((∃ x : Fin 31, nI X.val + sp_w (nI X.val) 0 = nI x.val) ∧ sp_d (sp_w (nI X.val) 0)) ∧ ((∃ x : Fin 31, nI X.val + sp_w (nI X.val) 1 = nI x.val) ∧ sp_d (sp_w (nI X.val) 1)) := by decide +kernel
theorem cr_turn {X : Nat} {d : Int32} (hX : X ≤ 30) (hd : sp_d d) : (∃ x, x ≤ 30 ∧ nI X + sp_w (nI X) d = nI x) ∧ sp_d (sp_w (nI X) d) := by
  obtain ⟨h1, h2, h3⟩ := cr_turn0 ⟨X, by omega⟩
  rcases hd with rfl | rfl | rfl
  · obtain ⟨⟨x, e⟩, h⟩ := h1
    exact ⟨⟨x.val, by have := x.isLt; omega, e⟩, h⟩
  · obtain ⟨⟨x, e⟩, h⟩ := h2
    exact ⟨⟨x.val, by have := x.isLt; omega, e⟩, h⟩
  · obtain ⟨⟨x, e⟩, h⟩ := h3
    exact ⟨⟨x.val, by have := x.isLt; omega, e⟩, h⟩
theorem sp_at_n {b : Nat → Int32} {x y : Int32} : ∀ n : Nat, n < 99 → sp_at b x y n = 99 → ∀ i, i < n → ¬ cr_on_pt b i x y
  | 0, _, _, i, hi => by omega
  | n + 1, hn, h, i, hi => by
    unfold sp_at at h
    by_cases hc : b (8 + 5 * n + 4) = -1006 ∧ b (8 + 5 * n) = x ∧ b (8 + 5 * n + 1) = y
    · rw [if_pos hc] at h; omega
    · rw [if_neg hc] at h
      rcases Nat.lt_or_ge i n with h2 | h2
      · exact sp_at_n n (by omega) h i h2
      · rw [show i = n by omega]; exact hc
theorem sp_at_s {b : Nat → Int32} {x y : Int32} : ∀ n : Nat, ¬ sp_at b x y n = 99 → sp_at b x y n < n ∧ cr_on_pt b (sp_at b x y n) x y
  | 0, h => absurd rfl h
  | n + 1, h => by
    unfold sp_at at h ⊢
    by_cases hc : b (8 + 5 * n + 4) = -1006 ∧ b (8 + 5 * n) = x ∧ b (8 + 5 * n + 1) = y
    · rw [if_pos hc]; exact ⟨by omega, hc⟩
    · rw [if_neg hc] at h ⊢
      obtain ⟨h1, h2⟩ := sp_at_s n h
      exact ⟨by omega, h2⟩
theorem cr_size {b : Nat → Int32} {n k j : Nat} (hB : cr_B b n k) (hj : j < n) : b (8 + 5 * j + 2) = nI (sp_sz b j) ∧ 1 ≤ sp_sz b j ∧ sp_sz b j ≤ 3 := by
  obtain ⟨x, y, s, o, -, -, h1, h2, -, -, -, es, -, -⟩ := hB.2.2.2.2.2.1 j hj
  unfold sp_sz
  rw [es, nI_clamp (by omega)]
  exact ⟨rfl, h1, h2⟩
theorem cr_cost {b : Nat → Int32} {k : Nat} {X Y x y : Int32} (hk : k ≤ 4) : f_J6_bitCount_0f7a4 (sp_rs b X Y k ^^^ sp_rs b x y k) = some (nI (sp_ct b k X Y x y)) ∧ sp_on (sp_rs b X Y k ^^^ sp_rs b x y k) 4 = nI (sp_ct b k X Y x y) ∧ sp_ct b k X Y x y ≤ 4 := by
  obtain ⟨s, s1, s2⟩ := sp_rs_16 (b := b) (x := X) (y := Y) hk
  obtain ⟨t, t1, t2⟩ := sp_rs_16 (b := b) (x := x) (y := y) hk
  unfold sp_ct
  rw [s2, t2]
  obtain ⟨h1, h2⟩ := cr_bits_x ⟨s, s1⟩ ⟨t, t1⟩
  rw [h1]
  rcases h2 with h | h | h | h | h <;> rw [h] <;> decide
theorem cr_cost_c : ∀ S : Fin 41, ∀ c : Fin 5, 1 ≤ S.val → (if (0 : Int32) < ((nI S.val - (1 : Int32)) - nI c.val) then ((nI S.val - (1 : Int32)) - nI c.val) else (0 : Int32)) = nI (S.val - 1 - c.val) := by decide +kernel
theorem cr_cost_m : ∀ S : Fin 41, ∀ c : Fin 5, 1 ≤ S.val → (S.val - 1 - c.val = 0 → nI S.val - ((1 : Int32) + nI c.val) ≤ 0) ∧ (¬ S.val - 1 - c.val = 0 → nI S.val - ((1 : Int32) + nI c.val) = nI (S.val - 1 - c.val)) := by decide +kernel
theorem cr_pass_c : ∀ S : Fin 41, ∀ a : Fin 4, ∀ c : Fin 4, 1 ≤ c.val → (if ((nI S.val * nI a.val) / nI c.val) < (40 : Int32) then ((nI S.val * nI a.val) / nI c.val) else (40 : Int32)) = nI (min 40 (S.val * a.val / c.val)) := by decide +kernel
theorem cr_pass_m : ∀ S : Fin 41, ∀ a : Fin 4, ∀ c : Fin 4, 1 ≤ c.val → (if ((nI S.val * nI a.val) / nI c.val) ≤ (40 : Int32) then ((nI S.val * nI a.val) / nI c.val) else (40 : Int32)) = nI (min 40 (S.val * a.val / c.val)) := by decide +kernel
/-- good states stay good -/
theorem sp_K_turn {n k m S h : Nat} {dx dy : Int32} {b : Nat → Int32} (hK : sp_K n k m dx dy S h b) : ∃ x y, x ≤ 30 ∧ y ≤ 30 ∧ b (8 + 5 * m) + sp_w (b (8 + 5 * m)) dx = nI x ∧ b (8 + 5 * m + 1) + sp_w (b (8 + 5 * m + 1)) dy = nI y ∧ sp_d (sp_w (b (8 + 5 * m)) dx) ∧ sp_d (sp_w (b (8 + 5 * m + 1)) dy) := by
  obtain ⟨hB, hm, hS, hh, h1, h2⟩ := hK
  obtain ⟨X, Y, s, o, hX, hY, -, -, -, ex, ey, -, -, -⟩ := hB.2.2.2.2.2.1 m hm
  rw [ex, ey]
  obtain ⟨⟨x, x1, x2⟩, x3⟩ := cr_turn hX h1
  obtain ⟨⟨y, y1, y2⟩, y3⟩ := cr_turn hY h2
  exact ⟨x, y, x1, y1, x2, y2, x3, y3⟩
