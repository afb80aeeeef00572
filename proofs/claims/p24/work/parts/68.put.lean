/-! marbles are put, rings drawn -/
theorem cr_uv {f : Nat → Int32} {k j : Nat} {x : Int32} : upd f k x j = if j = k then x else f j := by
  by_cases h : j = k
  · subst h
    rw [pk_us, if_pos rfl]
  · rw [pk_un h, if_neg h]
theorem cr_nlt {a b : Int32} : (¬ a < b) ↔ b ≤ a := by
  rw [Int32.lt_iff_toInt_lt, Int32.le_iff_toInt_le]; omega
theorem cr_pin {x : Int32} (h1 : ¬ x < 0) (h2 : ¬ (30 : Int32) < x) : ∃ X, X ≤ 30 ∧ x = nI X := nI_of2 (n := 30) (M := 30) (by decide) h1 (cr_nlt.mp h2)
theorem cr_pin2 {x y : Int32} (h : ¬ x < 0 ∧ ¬ (30 : Int32) < x ∧ ¬ y < 0 ∧ ¬ (30 : Int32) < y) : ∃ X Y, X ≤ 30 ∧ Y ≤ 30 ∧ x = nI X ∧ y = nI Y := by
  obtain ⟨X, h1, h2⟩ := cr_pin h.1 h.2.1
  obtain ⟨Y, h3, h4⟩ := cr_pin h.2.2.1 h.2.2.2
  exact ⟨X, Y, h1, h3, h2, h4⟩
/-- a number from one on -/
theorem cr_one_to {x M : Int32} {n : Nat} (hM : M.toInt = n) (h1 : ¬ x < 1) (h2 : x ≤ M) : ∃ S, 1 ≤ S ∧ S ≤ n ∧ x = nI S := by
  obtain ⟨S, s1, s2⟩ := nI_of2 (n := n) hM (show ¬ x < 0 by
    intro h
    apply h1
    rw [Int32.lt_iff_toInt_lt] at h ⊢
    have e0 : (0 : Int32).toInt = 0 := by decide
    have e1 : (1 : Int32).toInt = 1 := by decide
    omega) h2
  refine ⟨S, ?_, s1, s2⟩
  rcases Nat.eq_zero_or_pos S with h | h
  · exact absurd (show x < 1 by rw [s2, h]; decide) h1
  · exact h
theorem cr_IC_b {V W : cr_Hp} {b b' : Nat → Int32} {n k n' k' m L : Nat} {H : Nat → Nat → Int32} {T : Nat → Int32} (h : cr_IC V b n k m H L T) (hB : cr_B b' n' k') (hC : cr_C 0 W b' n' k') (hf : ∀ c, 38 ≤ c → c < 159 → c < 152 ∨ c = 154 ∨ c = 157 ∨ c = 158 → W c = V c) (hN : ∀ j, j < 12 → W (19 + 1 + 2 + j) 0 = nI j) : cr_IC W b' n' k' m H L T := by
  obtain ⟨-, -, hN0, hH, hL, hT, hT2⟩ := h
  refine ⟨hB, hC, fun a ha j hj => ?_, cr_Hi_fr hH (fun c c1 c2 c3 => hf c c1 (by omega) (by omega)), hL, by rw [hf _ (by omega) (by omega) (by omega)]; exact hT, fun i hi => by rw [hf _ (by omega) (by omega) (by omega)]; exact hT2 i hi⟩
  by_cases h0 : a = 0
  · rw [h0]; exact hC.2.2.1 j hj
  · by_cases h1 : a = 19
    · rw [h1]; exact hN j hj
    · rw [hf _ (by omega) (by omega) (by omega)]; exact hN0 a ha j hj
/-- putting -/
def sp_put (b : Nat → Int32) (n : Nat) (x y s o : Int32) : Nat → Int32 := upd (upd (upd (upd (upd (upd b 0 (nI (n + 1))) (8 + 5 * n) x) (8 + 5 * n + 1) y) (8 + 5 * n + 2) s) (8 + 5 * n + 3) o) (8 + 5 * n + 4) (-1006)
theorem sp_put_o {b : Nat → Int32} {n t : Nat} {x y s o : Int32} (h : t ≠ 0) (h2 : t < 8 + 5 * n ∨ 8 + 5 * n + 5 ≤ t) : sp_put b n x y s o t = b t := by
  unfold sp_put
  repeat rw [cr_uv]
  repeat rw [if_neg (by omega)]
theorem sp_put_0 {b : Nat → Int32} {n : Nat} {x y s o : Int32} : sp_put b n x y s o 0 = nI (n + 1) := by
  unfold sp_put
  repeat rw [cr_uv]
  repeat rw [if_neg (by omega)]
  rw [if_pos rfl]
theorem sp_put_n {b : Nat → Int32} {n : Nat} {x y s o : Int32} : sp_put b n x y s o (8 + 5 * n) = x ∧ sp_put b n x y s o (8 + 5 * n + 1) = y ∧ sp_put b n x y s o (8 + 5 * n + 2) = s ∧ sp_put b n x y s o (8 + 5 * n + 3) = o ∧ sp_put b n x y s o (8 + 5 * n + 4) = -1006 := by
  unfold sp_put
  repeat rw [cr_uv]
  refine ⟨?_, ?_, ?_, ?_, ?_⟩
  all_goals
    repeat rw [if_neg (by omega)]
    rw [if_pos (by omega)]
theorem cr_B_put {b : Nat → Int32} {n k X Y S O : Nat} (hB : cr_B b n k) (hn : n < 12) (hX : X ≤ 30) (hY : Y ≤ 30) (hS1 : 1 ≤ S) (hS : S ≤ 3) (hO : O < 3) (hon : ∀ i, i < n → ¬ cr_on_pt b i (nI X) (nI Y)) : cr_B (sp_put b n (nI X) (nI Y) (nI S) (nI O)) (n + 1) k := by
  obtain ⟨-, hk, b0, b1, b2, bm, br, bd, bz⟩ := hB
  obtain ⟨p0, p1, p2, p3, p4⟩ := @sp_put_n b n (nI X) (nI Y) (nI S) (nI O)
  have old : ∀ j, j < n → ∀ c, c < 5 → sp_put b n (nI X) (nI Y) (nI S) (nI O) (8 + 5 * j + c) = b (8 + 5 * j + c) := fun j hj c hc => sp_put_o (by omega) (by omega)
  have old0 : ∀ j, j < n → sp_put b n (nI X) (nI Y) (nI S) (nI O) (8 + 5 * j) = b (8 + 5 * j) := fun j hj => old j hj 0 (by omega)
  refine ⟨by omega, hk, sp_put_0, by rw [sp_put_o (by omega) (by omega)]; exact b1, by rw [sp_put_o (by omega) (by omega)]; exact b2, fun j hj => ?_, fun r hr => ?_, fun i j hi hj hij li lj => ?_, fun i hi => by rw [sp_put_o (by omega) (by omega)]; exact bz i hi⟩
  · rcases Nat.lt_or_ge j n with h | h
    · rw [old0 j h, old j h 1 (by omega), old j h 2 (by omega), old j h 3 (by omega), old j h 4 (by omega)]
      exact bm j h
    · rw [show j = n by omega, p0, p1, p2, p3, p4]
      exact ⟨X, Y, S, O, hX, hY, hS1, hS, hO, rfl, rfl, rfl, rfl, Or.inl rfl⟩
  · rw [sp_put_o (by omega) (by omega), sp_put_o (by omega) (by omega), sp_put_o (by omega) (by omega)]
    exact br r hr
  · rcases Nat.lt_or_ge i n with h | h <;> rcases Nat.lt_or_ge j n with h2 | h2
    · have li : cr_lie b i := (old i h 4 (by omega)).symm.trans li
      have lj : cr_lie b j := (old j h2 4 (by omega)).symm.trans lj
      rw [old0 i h, old0 j h2, old i h 1 (by omega), old j h2 1 (by omega)]
      exact bd i j h h2 hij li lj
    · have li : cr_lie b i := (old i h 4 (by omega)).symm.trans li
      rw [show j = n by omega, old0 i h, old i h 1 (by omega), p0, p1]
      exact fun hh => hon i h ⟨li, hh.1, hh.2⟩
    · have lj : cr_lie b j := (old j h2 4 (by omega)).symm.trans lj
      rw [show i = n by omega, old0 j h2, old j h2 1 (by omega), p0, p1]
      exact fun hh => hon j h2 ⟨lj, hh.1.symm, hh.2.symm⟩
    · omega
theorem cr_add {V : cr_Hp} {b : Nat → Int32} {n k : Nat} {x y s o : Int32} (hB : cr_B b n k) (hC : cr_C 0 V b n k) (hn : n < 12) : ∃ W, f_X3_addMarble 0 x y s o V = some (nI n, W) ∧ cr_C 0 W (sp_put b n x y s o) (n + 1) k ∧ ∀ c, 19 ≤ c → W c = V c := by
  have v2 : V 0 2 = nI n := (hC.2.1 0 (by decide)).trans hB.2.2.1
  have hk := hB.2.1
  obtain ⟨p0, p1, p2, p3, p4⟩ := @sp_put_n b n x y s o
  unfold f_X3_addMarble
  rw [v2, if_neg (cr_nn (by omega)), cr_L12, if_pos (nI_lt hn (by decide)), cr_gd_e (cr_ix_nI hn (by decide)), nI_clamp (by omega)]
  simp only [cr_lt_e]
  obtain ⟨c1, c2, c3, c4, c5, c6, c7, c8⟩ := hC
  refine ⟨_, congrArg some (Prod.ext ?_ rfl), ⟨by omega, fun c hc => ?_, fun j hj => ?_, fun j hj => ?_, fun j hj => ?_, fun j hj hj2 => ?_, fun r hr => ?_, fun r hr hr4 => ?_⟩, fun c hc => ?_⟩
  · show cr_pt _ _ _ _ _ _ = _
    repeat rw [cr_pv]
    repeat rw [if_neg (by omega)]
    exact c3 n hn
  · repeat rw [cr_pv]
    by_cases h0 : c = 0
    · subst h0
      rw [if_pos ⟨rfl, rfl⟩, sp_put_0]
      repeat rw [if_neg (by omega)]
      rw [v2, cr_1]
    · repeat rw [if_neg (by omega)]
      rw [c2 c hc, sp_put_o h0 (by omega)]
  · repeat rw [cr_pv]
    repeat rw [if_neg (by omega)]
    exact c3 j hj
  · rcases Nat.lt_or_ge j n with h | h
    · rw [sp_put_o (by omega) (by omega), sp_put_o (by omega) (by omega), sp_put_o (by omega) (by omega), sp_put_o (by omega) (by omega)]
      simp only [cr_pt_ne (show 0 + 1 + 2 + j ≠ 0 + 1 + 2 + n by omega), cr_pt_ne (show 0 + 1 + 2 + j ≠ 0 by omega)]
      exact c4 j h
    · rw [show j = n by omega, p0, p1, p2, p3]
      repeat rw [cr_pv]
      refine ⟨?_, ?_, ?_, ?_⟩
      all_goals
        repeat rw [if_neg (by omega)]
        rw [if_pos (by omega)]
  · rcases Nat.lt_or_ge j n with h | h
    · rw [cr_lie, sp_put_o (by omega) (by omega)]
      simp only [cr_pt_ne (show 0 + 1 + 2 + j ≠ 0 + 1 + 2 + n by omega), cr_pt_ne (show 0 + 1 + 2 + j ≠ 0 by omega)]
      exact c5 j h
    · rw [cr_lie, show j = n by omega, p4]
      refine Or.inl ⟨rfl, ?_, ?_⟩
      all_goals
        repeat rw [cr_pv]
        repeat rw [if_neg (by omega)]
        rw [if_pos (by omega)]
  · simp only [cr_pt_ne (show 0 + 1 + 2 + j ≠ 0 + 1 + 2 + n by omega), cr_pt_ne (show 0 + 1 + 2 + j ≠ 0 by omega)]
    exact c6 j (by omega) hj2
  · rw [sp_put_o (by omega) (by omega), sp_put_o (by omega) (by omega), sp_put_o (by omega) (by omega)]
    simp only [cr_pt_ne (show 0 + 2 + 13 + r ≠ 0 + 1 + 2 + n by omega), cr_pt_ne (show 0 + 2 + 13 + r ≠ 0 by omega)]
    exact c7 r hr
  · simp only [cr_pt_ne (show 0 + 2 + 13 + r ≠ 0 + 1 + 2 + n by omega), cr_pt_ne (show 0 + 2 + 13 + r ≠ 0 by omega)]
    exact c8 r hr hr4
  · simp only [cr_pt_ne (show c ≠ 0 + 1 + 2 + n by omega), cr_pt_ne (show c ≠ 0 by omega)]
theorem cr_IM_m {V : cr_Hp} {b : Nat → Int32} {n k m L : Nat} {H : Nat → Nat → Int32} {T : Nat → Int32} (hI : cr_IC V b n k m H L T) : m ≤ 6 := (cr_Hi_m hI.2.2.2.1).1
