/-! the model rolls -/
def sp_ov (b : Nat → Int32) (c3 c4 c5 c7 : Int32) : Nat → Int32 := fun t => if t = 3 then c3 else if t = 4 then c4 else if t = 5 then c5 else if t = 7 then c7 else b t
theorem sp_ov_o {b : Nat → Int32} {c3 c4 c5 c7 : Int32} {t : Nat} (h : t ≠ 3 ∧ t ≠ 4 ∧ t ≠ 5 ∧ t ≠ 7) : sp_ov b c3 c4 c5 c7 t = b t := by
  unfold sp_ov
  rw [if_neg h.1, if_neg h.2.1, if_neg h.2.2.1, if_neg h.2.2.2]
theorem sp_ov_8 {b : Nat → Int32} {c3 c4 c5 c7 : Int32} {t : Nat} (h : 8 ≤ t) : sp_ov b c3 c4 c5 c7 t = b t := sp_ov_o (by omega)
theorem sp_ov_u {b : Nat → Int32} {c3 c4 c5 c7 v : Int32} {t : Nat} (h : t ≠ 3 ∧ t ≠ 4 ∧ t ≠ 5 ∧ t ≠ 7) : upd (sp_ov b c3 c4 c5 c7) t v = sp_ov (upd b t v) c3 c4 c5 c7 := by
  funext i
  by_cases hi : i = t
  · subst hi
    rw [cr_uv, if_pos rfl, sp_ov_o h, cr_uv, if_pos rfl]
  · rw [cr_uv, if_neg hi]
    unfold sp_ov
    rw [cr_uv, if_neg hi]
theorem sp_ov_7 {b : Nat → Int32} {c3 c4 c5 c7 v : Int32} : upd (sp_ov b c3 c4 c5 c7) 7 v = sp_ov b c3 c4 c5 v := by
  funext i
  rw [cr_uv]
  unfold sp_ov
  by_cases hi : i = 7
  · subst hi; rfl
  · rw [if_neg hi, if_neg hi, if_neg hi]
theorem sp_ov_4 {b : Nat → Int32} {c3 c4 c5 c7 v : Int32} : upd (sp_ov b c3 c4 c5 c7) 4 v = sp_ov b c3 v c5 c7 := by
  funext i
  rw [cr_uv]
  unfold sp_ov
  by_cases hi : i = 4
  · subst hi; rfl
  · rw [if_neg hi, if_neg hi, if_neg hi]
theorem sp_ov_3 {b : Nat → Int32} {c3 c4 c5 c7 v : Int32} : upd (sp_ov b c3 c4 c5 c7) 3 v = sp_ov b v c4 c5 c7 := by
  funext i
  rw [cr_uv]
  unfold sp_ov
  by_cases hi : i = 3
  · subst hi; rfl
  · rw [if_neg hi, if_neg hi, if_neg hi]
theorem sp_ov_5 {b : Nat → Int32} {c3 c4 c5 c7 v : Int32} : upd (sp_ov b c3 c4 c5 c7) 5 v = sp_ov b c3 c4 v c7 := by
  funext i
  rw [cr_uv]
  unfold sp_ov
  by_cases hi : i = 5
  · subst hi; rfl
  · rw [if_neg hi, if_neg hi, if_neg hi]
theorem sp_ov_id {b : Nat → Int32} : sp_ov b (b 3) (b 4) (b 5) (b 7) = b := by
  funext i
  unfold sp_ov
  by_cases h3 : i = 3
  · rw [if_pos h3, h3]
  · rw [if_neg h3]
    by_cases h4 : i = 4
    · rw [if_pos h4, h4]
    · rw [if_neg h4]
      by_cases h5 : i = 5
      · rw [if_pos h5, h5]
      · rw [if_neg h5]
        by_cases h7 : i = 7
        · rw [if_pos h7, h7]
        · rw [if_neg h7]
theorem cr_B_ov {b : Nat → Int32} {n k : Nat} {c3 c4 c5 c7 : Int32} (hB : cr_B b n k) : cr_B (sp_ov b c3 c4 c5 c7) n k := by
  have e : sp_ov b c3 c4 c5 c7 = upd (upd (upd (upd b 3 c3) 4 c4) 5 c5) 7 c7 := by
    have h1 : upd (upd (upd (upd (sp_ov b (b 3) (b 4) (b 5) (b 7)) 3 c3) 4 c4) 5 c5) 7 c7 = sp_ov b c3 c4 c5 c7 := by rw [sp_ov_3, sp_ov_4, sp_ov_5, sp_ov_7]
    rw [sp_ov_id] at h1
    exact h1.symm
  rw [e]
  exact cr_B_u (cr_B_u (cr_B_u (cr_B_u hB (by omega) (by omega) (fun h => absurd h (by omega))) (by omega) (by omega) (fun h => absurd h (by omega))) (by omega) (by omega) (fun h => absurd h (by omega))) (by omega) (by omega) (fun h => absurd h (by omega))
theorem sp_ov_rs {b : Nat → Int32} {c3 c4 c5 c7 : Int32} {x y : Int32} {k : Nat} : sp_rs (sp_ov b c3 c4 c5 c7) x y k = sp_rs b x y k := sp_rs_co (fun t ht => sp_ov_8 (by omega)) k
theorem sp_ov_on {b : Nat → Int32} {c3 c4 c5 c7 : Int32} {x y : Int32} {i : Nat} : cr_on_pt (sp_ov b c3 c4 c5 c7) i x y ↔ cr_on_pt b i x y := by
  unfold cr_on_pt cr_lie
  rw [sp_ov_8 (by omega), sp_ov_8 (by omega), sp_ov_8 (by omega)]
/-- bits of the marbles that were hit -/
theorem cr_s31 : ∀ n, n < 32 → ((nI n &&& 31).toBitVec.smod 32).toNat = n := by decide +kernel
theorem cr_or_nI {u v : Nat} (hu : u < 2 ^ 31) (hv : v < 2 ^ 31) : nI u ||| nI v = nI (u ||| v) := by
  apply Int32.toBitVec_inj.mp
  apply BitVec.eq_of_toNat_eq
  rw [Int32.toBitVec_or, BitVec.toNat_or, pk_tn (by omega), pk_tn (by omega), pk_tn]
  exact Nat.lt_of_lt_of_le (Nat.or_lt_two_pow hu hv) (by decide)
theorem cr_bit_set {v o : Nat} (hv : v < 4096) (ho : o < 12) : nI v ||| ((1 : Int32) <<< (nI o &&& 31)) = nI (v ||| 2 ^ o) ∧ v ||| 2 ^ o < 4096 := by
  have h2 : 2 ^ o < 2 ^ 12 := Nat.pow_lt_pow_right (by decide) ho
  refine ⟨?_, Nat.or_lt_two_pow (n := 12) hv h2⟩
  rw [cr_L1, pk_shlN _ o (cr_s31 o (by omega)) (by omega), Nat.one_mul, cr_or_nI (by omega) (by omega)]
theorem cr_bit_get {v j : Nat} (hv : v < 4096) (hj : j < 12) : ((nI v >>> (nI j &&& 31)) &&& (1 : Int32)) = (1 : Int32) ↔ v.testBit j = true := by
  rw [pk_shrN (by omega) _ j (cr_s31 j (by omega)), pk_andN (Nat.lt_of_le_of_lt (Nat.div_le_self _ _) (by omega)) 1 (by decide), cr_L1, nI_eq (by omega) (by decide), Nat.testBit_eq_decide_div_mod_eq]
  simp
theorem cr_bit_or {v o j : Nat} {ht : Nat → Bool} (h : v.testBit j = ht j) : (v ||| 2 ^ o).testBit j = (j == o || ht j) := by
  rw [Nat.testBit_or, Nat.testBit_two_pow, h]
  by_cases hj : j = o
  · subst hj; simp
  · have : ¬ o = j := fun e => hj e.symm
    simp [hj, this]
