/-! the digest: two loops that walk alike -/
theorem cr_two_go {S R : Type} {f g : S × Int32 → Option ((S × Int32) ⊕ R)} {n : Nat} {P : S → R → Prop} (h : ∀ i, i < n → ∀ x, ∃ y, f (x, nI i) = some (.inl (y, nI (i + 1))) ∧ g (x, nI i) = some (.inl (y, nI (i + 1)))) (he : ∀ x, ∃ r, f (x, nI n) = some (.inr r) ∧ g (x, nI n) = some (.inr r)) : ∀ (d i fuel : Nat) (x : S), i + d = n → d < fuel → ∃ r, cr_it f fuel (x, nI i) = some r ∧ cr_it g fuel (x, nI i) = some r
  | 0, i, 0, x, _, hf => by omega
  | 0, i, fuel + 1, x, hi, _ => by
    obtain ⟨r, h1, h2⟩ := he x
    refine ⟨r, ?_, ?_⟩
    · unfold cr_it
      rw [show i = n by omega, h1]
    · unfold cr_it
      rw [show i = n by omega, h2]
  | d + 1, i, 0, x, _, hf => by omega
  | d + 1, i, fuel + 1, x, hi, hf => by
    obtain ⟨y, h1, h2⟩ := h i (by omega) x
    obtain ⟨r, h3, h4⟩ := cr_two_go (P := P) h he d (i + 1) fuel y (by omega) (by omega)
    refine ⟨r, ?_, ?_⟩
    · unfold cr_it
      rw [h1]; exact h3
    · unfold cr_it
      rw [h2]; exact h4
theorem cr_two {S R β : Type} {f g : S × Int32 → Option ((S × Int32) ⊕ R)} {F G : R → Option β} (n : Nat) {x : S} (h : ∀ i, i < n → ∀ x, ∃ y, f (x, nI i) = some (.inl (y, nI (i + 1))) ∧ g (x, nI i) = some (.inl (y, nI (i + 1)))) (he : ∀ x, ∃ r, f (x, nI n) = some (.inr r) ∧ g (x, nI n) = some (.inr r)) (hn : n < 100000) (hk : ∀ r, ∃ z, F r = some z ∧ G r = some z) : ∃ z, cr_bd (cr_it f cr_FU (x, (0 : Int32))) F = some z ∧ cr_bd (cr_it g cr_FU (x, (0 : Int32))) G = some z := by
  obtain ⟨r, h1, h2⟩ := cr_two_go (P := fun _ _ => True) h he n 0 cr_FU x (by omega) hn
  obtain ⟨z, h3, h4⟩ := hk r
  exact ⟨z, (cr_bd_e h1).trans h3, (cr_bd_e h2).trans h4⟩
theorem cr_count {V : cr_Hp} {b : Nat → Int32} {n k j : Nat} (hC : cr_C 0 V b n k) (hj : j < 8) : f_X7_count (nI j) V = some (b j) := by
  have hc := hC.2.1
  have hj2 : j = 0 ∨ j = 1 ∨ j = 2 ∨ j = 3 ∨ j = 4 ∨ j = 5 ∨ j = 6 ∨ j = 7 := by omega
  rcases hj2 with rfl | rfl | rfl | rfl | rfl | rfl | rfl | rfl
  · exact congrArg some (hc 0 (by decide))
  · exact congrArg some (hc 1 (by decide))
  · exact congrArg some (hc 2 (by decide))
  · exact congrArg some (hc 3 (by decide))
  · exact congrArg some (hc 4 (by decide))
  · exact congrArg some (hc 5 (by decide))
  · exact congrArg some (hc 6 (by decide))
  · exact congrArg some (hc 7 (by decide))
