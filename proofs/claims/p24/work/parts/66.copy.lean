/-! playgrounds are copied -/
theorem cr_pv {V : cr_Hp} {a k b t : Nat} {x : Int32} : cr_pt V a k x b t = if b = a ∧ t = k then x else V b t := by
  by_cases h : b = a
  · subst h
    rw [cr_pt_eq]
    by_cases h2 : t = k
    · subst h2
      rw [pk_us, if_pos ⟨rfl, rfl⟩]
    · rw [pk_un h2, if_neg (fun h => h2 h.2)]
  · rw [cr_pt_ne h, if_neg (fun h2 => h h2.1)]
theorem cr_inv {S R : Type} {f : S → Option (S ⊕ R)} (I : Nat → S → Prop) (Q : R → Prop) {n : Nat} (h : ∀ i, i < n → ∀ s, I i s → ∃ s', f s = some (.inl s') ∧ I (i + 1) s') (he : ∀ s, I n s → ∃ r, f s = some (.inr r) ∧ Q r) : ∀ (d i fuel : Nat) (s : S), i + d = n → d < fuel → I i s → ∃ r, cr_it f fuel s = some r ∧ Q r
  | 0, i, 0, x, _, hf, _ => by omega
  | 0, i, fuel + 1, x, hi, _, hI => by
    obtain ⟨r, h1, h2⟩ := he x (by rw [show n = i by omega]; exact hI)
    refine ⟨r, ?_, h2⟩
    unfold cr_it
    rw [h1]
  | d + 1, i, 0, x, _, hf, _ => by omega
  | d + 1, i, fuel + 1, x, hi, hf, hI => by
    obtain ⟨y, h1, h2⟩ := h i (by omega) x hI
    obtain ⟨r, h3, h4⟩ := cr_inv I Q h he d (i + 1) fuel y (by omega) (by omega) h2
    refine ⟨r, ?_, h4⟩
    unfold cr_it
    rw [h1]; exact h3
theorem cr_invH {R : Type} {F : Int32 → cr_Hp → Option ((Int32 × cr_Hp) ⊕ R)} (J : Nat → cr_Hp → Prop) (Q : R → Prop) (n : Nat) {V : cr_Hp} (h0 : J 0 V) (h : ∀ i, i < n → ∀ W, J i W → ∃ W', F (nI i) W = some (.inl (nI (i + 1), W')) ∧ J (i + 1) W') (he : ∀ W, J n W → ∃ r, F (nI n) W = some (.inr r) ∧ Q r) (hn : n < 100000) : ∃ r, cr_it (fun (q : Int32 × cr_Hp) => F q.1 q.2) cr_FU ((0 : Int32), V) = some r ∧ Q r := by
  refine cr_inv (f := fun (q : Int32 × cr_Hp) => F q.1 q.2) (fun i s => s.1 = nI i ∧ J i s.2) Q (n := n) (fun i hi s hs => ?_) (fun s hs => ?_) n 0 cr_FU (0, V) (by omega) hn ⟨rfl, h0⟩
  · obtain ⟨s1, s2⟩ := s
    obtain ⟨h1, h2⟩ := hs
    have h1 : s1 = nI i := h1
    subst h1
    obtain ⟨W, e, hj⟩ := h i hi s2 h2
    exact ⟨(nI (i + 1), W), e, rfl, hj⟩
  · obtain ⟨s1, s2⟩ := s
    obtain ⟨h1, h2⟩ := hs
    have h1 : s1 = nI n := h1
    subst h1
    exact he s2 h2
theorem cr_mcopy {m q : Nat} {V : cr_Hp} (hne : q ≠ m) (hb : cr_bo (V q 6)) : ∃ W, f_X2_copyFrom m q V = some W ∧ (∀ c, c ≠ m → W c = V c) ∧ (W m 0 = V m 0) ∧ ∀ t, 1 ≤ t → t ≤ 6 → W m t = V q t := by
  unfold f_X2_copyFrom
  simp only [cr_lt_e]
  refine ⟨_, cr_gd_e ?_, ?_, ?_, ?_⟩
  · simp only [cr_pv, hne, false_and, if_false]; exact hb
  · intro c hc
    simp only [cr_pt_ne hc]
  · simp only [cr_pv]
    repeat rw [if_neg (by omega)]
  · intro t h1 h2
    have ht : t = 1 ∨ t = 2 ∨ t = 3 ∨ t = 4 ∨ t = 5 ∨ t = 6 := by omega
    rcases ht with rfl | rfl | rfl | rfl | rfl | rfl <;> simp [cr_pv, hne]
theorem cr_rcopy {m q : Nat} {V : cr_Hp} (hne : q ≠ m) : ∃ W, f_X4_copyFrom m q V = some W ∧ (∀ c, c ≠ m → W c = V c) ∧ ∀ t, t < 3 → W m t = V q t := by
  unfold f_X4_copyFrom
  simp only [cr_lt_e]
  refine ⟨_, rfl, ?_, ?_⟩
  · intro c hc
    simp only [cr_pt_ne hc]
  · intro t h1
    have ht : t = 0 ∨ t = 1 ∨ t = 2 := by omega
    rcases ht with rfl | rfl | rfl <;> simp [cr_pv, hne]
theorem cr_fcopy {a p : Nat} {V : cr_Hp} (hne : p ≠ a) : ∃ W, f_X3_copyFrom_b112 a p V = some W ∧ (∀ c, c ≠ a → W c = V c) ∧ ∀ c, c < 8 → W a (c + 2) = V p (c + 2) := by
  unfold f_X3_copyFrom_b112
  simp only [cr_lt_e]
  refine ⟨_, rfl, ?_, ?_⟩
  · intro c hc
    simp only [cr_pt_ne hc]
  · intro t h1
    have ht : t = 0 ∨ t = 1 ∨ t = 2 ∨ t = 3 ∨ t = 4 ∨ t = 5 ∨ t = 6 ∨ t = 7 := by omega
    rcases ht with rfl | rfl | rfl | rfl | rfl | rfl | rfl | rfl <;> simp [cr_pv, hne]
theorem cr_C_of {a p : Nat} {V V1 : cr_Hp} {b : Nat → Int32} {n k : Nat} (hn : n ≤ 12) (hk : k ≤ 4) (hC : cr_C p V b n k) (ha : cr_pg a) (h1 : ∀ c, c < 8 → V1 a (c + 2) = V p (c + 2)) (h2 : ∀ j, j < 12 → V1 (a + 1 + 2 + j) 0 = nI j) (h3 : ∀ j, j < 12 → ∀ t, 1 ≤ t → t ≤ 6 → V1 (a + 1 + 2 + j) t = V (p + 1 + 2 + j) t) (h4 : ∀ r, r < 4 → ∀ t, t < 3 → V1 (a + 2 + 13 + r) t = V (p + 2 + 13 + r) t) : cr_C a V1 b n k := by
  obtain ⟨c1, c2, c3, c4, c5, c6, c7, c8⟩ := hC
  refine ⟨ha, fun c hc => (h1 c hc).trans (c2 c hc), h2, fun j hj => ?_, fun j hj => ?_, fun j hj hj2 => ?_, fun r hr => ?_, fun r hr hr2 => ?_⟩
  · rw [h3 j (by omega) 1 (by omega) (by omega), h3 j (by omega) 2 (by omega) (by omega), h3 j (by omega) 3 (by omega) (by omega), h3 j (by omega) 4 (by omega) (by omega)]
    exact c4 j hj
  · rw [h3 j (by omega) 5 (by omega) (by omega), h3 j (by omega) 6 (by omega) (by omega)]
    exact c5 j hj
  · rw [h3 j (by omega) 5 (by omega) (by omega), h3 j (by omega) 6 (by omega) (by omega)]
    exact c6 j hj hj2
  · rw [h4 r (by omega) 0 (by omega), h4 r (by omega) 1 (by omega), h4 r (by omega) 2 (by omega)]
    exact c7 r hr
  · rw [h4 r (by omega) 2 (by omega)]
    exact c8 r hr hr2
theorem cr_C_fr {a : Nat} {V V1 : cr_Hp} {b : Nat → Int32} {n k : Nat} (hn : n ≤ 12) (hk : k ≤ 4) (hC : cr_C a V b n k) (h : ∀ c, a ≤ c → c < a + 19 → V1 c = V c) : cr_C a V1 b n k := by
  refine cr_C_of hn hk hC hC.1 (fun c hc => by rw [h a (by omega) (by omega)]) (fun j hj => by rw [h _ (by omega) (by omega)]; exact hC.2.2.1 j hj) (fun j hj t _ _ => by rw [h _ (by omega) (by omega)]) (fun r hr t _ => by rw [h _ (by omega) (by omega)])
theorem cr_lies {a j : Nat} {V : cr_Hp} {b : Nat → Int32} {n k : Nat} (hC : cr_C a V b n k) (hj : j < 12) : cr_bo (V (a + 1 + 2 + j) 6) := by
  rcases Nat.lt_or_ge j n with h | h
  · rcases hC.2.2.2.2.1 j h with ⟨-, h, -⟩ | ⟨-, h, -⟩
    · exact Or.inr h
    · exact Or.inl h
  · exact Or.inl (hC.2.2.2.2.2.1 j h hj).1
theorem cr_copy {a p : Nat} {V : cr_Hp} {b : Nat → Int32} {n k : Nat} (hn : n ≤ 12) (hk : k ≤ 4) (hC : cr_C p V b n k) (ha : cr_pg a) (hne : p ≠ a) (hnum : ∀ j, j < 12 → V (a + 1 + 2 + j) 0 = nI j) : ∃ V1, f_X3_copyFrom a p V = some V1 ∧ cr_C a V1 b n k ∧ (∀ c, c < a ∨ a + 19 ≤ c → V1 c = V c) := by
  have hp := hC.1
  obtain ⟨V1, e1, h1⟩ := cr_invH (F := fun x W => f_X3_copyFrom_l2 a p x W) (V := V) (fun i W => (∀ c, c < a ∨ a + 19 ≤ c → W c = V c) ∧ (∀ j, j < 12 → W (a + 1 + 2 + j) 0 = nI j) ∧ ∀ j, j < i → ∀ t, 1 ≤ t → t ≤ 6 → W (a + 1 + 2 + j) t = V (p + 1 + 2 + j) t) (fun W => (∀ c, c < a ∨ a + 19 ≤ c → W c = V c) ∧ (∀ j, j < 12 → W (a + 1 + 2 + j) 0 = nI j) ∧ ∀ j, j < 12 → ∀ t, 1 ≤ t → t ≤ 6 → W (a + 1 + 2 + j) t = V (p + 1 + 2 + j) t) 12
    ⟨fun _ _ => rfl, hnum, fun j hj => absurd hj (by omega)⟩ (fun i hi W ⟨w1, w2, w3⟩ => by
      unfold f_X3_copyFrom_l2
      rw [cr_L12, if_neg (nI_ge hi (by decide)), if_neg (nI_ge hi (by decide)), cr_gd_e (cr_ix_nI hi (by decide)), cr_gd_e (cr_ix_nI hi (by decide)), nI_clamp (by omega), cr_1]
      obtain ⟨W', e, f1, f2, f3⟩ := cr_mcopy (m := a + 1 + 2 + i) (q := p + 1 + 2 + i) (V := W) (by omega) (by rw [w1 _ (by omega)]; exact cr_lies hC hi)
      rw [e, cr_bd_some]
      refine ⟨W', rfl, fun c hc => by rw [f1 c (by omega), w1 c hc], fun j hj => ?_, fun j hj t t1 t2 => ?_⟩
      · rcases Nat.lt_or_ge i j with h | h
        · rw [f1 _ (by omega)]; exact w2 j hj
        · rcases Nat.lt_or_ge j i with h | h
          · rw [f1 _ (by omega)]; exact w2 j hj
          · rw [show j = i by omega, f2]; exact w2 i hi
      · rcases Nat.lt_or_ge j i with h | h
        · rw [f1 _ (by omega)]; exact w3 j h t t1 t2
        · rw [show j = i by omega, f3 t t1 t2, w1 _ (by omega)])
    (fun W hW => ⟨W, by
      unfold f_X3_copyFrom_l2
      rw [cr_L12, if_pos (nI_le (Nat.le_refl 12) (by decide))], hW⟩) (by decide)
  obtain ⟨w1, w2, w3⟩ := h1
  obtain ⟨V2, e2, x1, x2, x3, x4⟩ := cr_invH (F := fun x W => f_X3_copyFrom_l58 a p x W) (V := V1) (fun i W => (∀ c, c < a ∨ a + 19 ≤ c → W c = V c) ∧ (∀ j, j < 12 → W (a + 1 + 2 + j) 0 = nI j) ∧ (∀ j, j < 12 → ∀ t, 1 ≤ t → t ≤ 6 → W (a + 1 + 2 + j) t = V (p + 1 + 2 + j) t) ∧ ∀ r, r < i → ∀ t, t < 3 → W (a + 2 + 13 + r) t = V (p + 2 + 13 + r) t) (fun W => (∀ c, c < a ∨ a + 19 ≤ c → W c = V c) ∧ (∀ j, j < 12 → W (a + 1 + 2 + j) 0 = nI j) ∧ (∀ j, j < 12 → ∀ t, 1 ≤ t → t ≤ 6 → W (a + 1 + 2 + j) t = V (p + 1 + 2 + j) t) ∧ ∀ r, r < 4 → ∀ t, t < 3 → W (a + 2 + 13 + r) t = V (p + 2 + 13 + r) t) 4
    ⟨w1, w2, w3, fun j hj => absurd hj (by omega)⟩ (fun i hi W ⟨w1, w2, w3, w4⟩ => by
      unfold f_X3_copyFrom_l58
      rw [cr_L4, if_neg (nI_ge hi (by decide)), if_neg (nI_ge hi (by decide)), cr_gd_e (cr_ix_nI hi (by decide)), cr_gd_e (cr_ix_nI hi (by decide)), nI_clamp (by omega), cr_1]
      obtain ⟨W', e, f1, f2⟩ := cr_rcopy (m := a + 2 + 13 + i) (q := p + 2 + 13 + i) (V := W) (by omega)
      rw [e, cr_bd_some]
      refine ⟨W', rfl, fun c hc => by rw [f1 c (by omega), w1 c hc], fun j hj => by rw [f1 _ (by omega)]; exact w2 j hj, fun j hj t t1 t2 => by rw [f1 _ (by omega)]; exact w3 j hj t t1 t2, fun r hr t ht => ?_⟩
      rcases Nat.lt_or_ge r i with h | h
      · rw [f1 _ (by omega)]; exact w4 r h t ht
      · rw [show r = i by omega, f2 t ht, w1 _ (by omega)])
    (fun W hW => ⟨W, by
      unfold f_X3_copyFrom_l58
      rw [cr_L4, if_pos (nI_le (Nat.le_refl 4) (by decide))], hW⟩) (by decide)
  obtain ⟨V3, e3, y1, y2⟩ := cr_fcopy (a := a) (p := p) (V := V2) hne
  refine ⟨V3, ?_, ?_, fun c hc => by rw [y1 c (by omega), x1 c hc]⟩
  · unfold f_X3_copyFrom
    rw [e1, cr_bd_some]
    unfold f_X3_copyFrom_b56
    rw [e2, cr_bd_some, e3]
  · refine cr_C_of hn hk hC ha (fun c hc => by rw [y2 c hc, x1 p (by omega)]) (fun j hj => by rw [y1 _ (by omega)]; exact x2 j hj) (fun j hj t t1 t2 => by rw [y1 _ (by omega)]; exact x3 j hj t t1 t2) (fun r hr t ht => by rw [y1 _ (by omega)]; exact x4 r hr t ht)
