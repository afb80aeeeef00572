/-! flick and ifFlicked, both sides -/
theorem sp_gw_low {g : Int32} {b : Nat → Int32} {t : Nat} (ht : t < 6 ∨ t = 7) : ∀ r, sp_gw g b r t = b t
  | 0 => rfl
  | r + 1 => by
    unfold sp_gw
    by_cases hc : sp_bit g r ∧ ¬ (15 : Int32) ≤ sp_gw g b r (68 + 3 * r + 2)
    · rw [if_pos hc, cr_uv, if_neg (by omega), cr_uv, if_neg (by omega)]; exact sp_gw_low ht r
    · rw [if_neg hc]; exact sp_gw_low ht r
theorem sp_tk_low {k : Nat} {P : Int32} {ra : Nat → Int32} {ht : Nat → Bool} {b : Nat → Int32} {t : Nat} (h8 : t < 8) : ∀ i, (sp_tk k P ra ht b i).2.2.2 t = b t
  | 0 => rfl
  | i + 1 => by
    unfold sp_tk
    by_cases hc : sp_won k P ra ht (sp_tk k P ra ht b i).2.2.2 i
    · rw [if_pos hc]
      show upd _ _ _ _ = _
      rw [cr_uv, if_neg (by omega)]; exact sp_tk_low h8 i
    · rw [if_neg hc]; exact sp_tk_low h8 i
theorem sp_nu_ov {b : Nat → Int32} {h w c : Int32} : sp_nu b h w c = sp_ov b (b 3 + 1) (b 4 + h) (b 5 + c) (b 7 + w) := by
  have h1 : upd (upd (upd (upd (sp_ov b (b 3) (b 4) (b 5) (b 7)) 3 (b 3 + 1)) 4 (b 4 + h)) 7 (b 7 + w)) 5 (b 5 + c) = sp_ov b (b 3 + 1) (b 4 + h) (b 5 + c) (b 7 + w) := by rw [sp_ov_3, sp_ov_4, sp_ov_7, sp_ov_5]
  rw [sp_ov_id] at h1
  exact h1
theorem cr_owner {b : Nat → Int32} {n k j : Nat} (hB : cr_B b n k) (hj : j < n) : ∃ p, p < 3 ∧ b (8 + 5 * j + 3) = nI p := by
  obtain ⟨x, y, s, o, -, -, -, -, h3, -, -, -, eo, -⟩ := hB.2.2.2.2.2.1 j hj
  exact ⟨o, h3, eo⟩
