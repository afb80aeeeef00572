/-! the digest: two loops that walk alike -/
theorem cr_two_go {S R : Type} {f g : S × Int32 → Option ((S × Int32) ⊕ R)} {n : Nat} {P : S → R → Prop} (h : ∀ i, i < n → ∀ x, ∃ y, f (x, nI i) = some (.inl (y, nI (i + 1))) ∧ g (x, nI i) = some (.inl (y, nI (i + 1)))) (he : ∀ x, ∃ r, f (x, nI n) = some (.inr r) ∧ g (x, nI n) = some (.inr r)) : ∀ (d i fuel : Nat) (x : S), i + d = n → d < fuel → ∃ r, cr_it f fuel (x, nI i) = some r ∧ cr_it g fuel (x, nI i) = some r
  | 0, i, 0, x, _, hf => by omega
  | 0, i, fuel + 1, x, hi, _ => by
    obtain ⟨r, h1, h2⟩ := he x
    refine ⟨r, ?_, ?_⟩
    · unfold cr_it
      rw [show i = n by omega, h1]
    · unfold cr_it
      rw [show i = n by omega, h2]
  | d + 1, i, 0, x, _, hf => by omega
  | d + 1, i, fuel + 1, x, hi, hf => by
    obtain ⟨y, h1, h2⟩ := h i (by omega) x
    obtain ⟨r, h3, h4⟩ := cr_two_go (P := P) h he d (i + 1) fuel y (by omega) (by omega)
    refine ⟨r, ?_, ?_⟩
    · unfold cr_it
      rw [h1]; exact h3
    · unfold cr_it
      rw [h2]; exact h4
theorem cr_two {S R β : Type} {f g : S × Int32 → Option ((S × Int32) ⊕ R)} {F G : R → Option β} (n : Nat) {x : S} (h : ∀ i, i < n → ∀ x, ∃ y, f (x, nI i) = some (.inl (y, nI (i + 1))) ∧ g (x, nI i) = some (.inl (y, nI (i + 1)))) (he : ∀ x, ∃ r, f (x, nI n) = some (.inr r) ∧ g (x, nI n) = some (.inr r)) (hn : n < 100000) (hk : ∀ r, ∃ z, F r = some z ∧ G r = some z) : ∃ z, cr_bd (cr_it f cr_FU (x, (0 : Int32))) F = some z ∧ cr_bd (cr_it g cr_FU (x, (0 : Int32))) G = some z := by
  obtain ⟨r, h1, h2⟩ := cr_two_go (P := fun _ _ => True) h he n 0 cr_FU x (by omega) hn
  obtain ⟨z, h3, h4⟩ := hk r
  exact ⟨z, (cr_bd_e h1).trans h3, (cr_bd_e h2).trans h4⟩
theorem cr_count {V : cr_Hp} {b : Nat → Int32} {n k j : Nat} (hC : cr_C 0 V b n k) (hj : j < 8) : f_X7_count (nI j) V = some (b j) := by
  have hc := hC.2.1
  have hj2 : j = 0 ∨ j = 1 ∨ j = 2 ∨ j = 3 ∨ j = 4 ∨ j = 5 ∨ j = 6 ∨ j = 7 := by omega
  rcases hj2 with rfl | rfl | rfl | rfl | rfl | rfl | rfl | rfl
  · exact congrArg some (hc 0 (by decide))
  · exact congrArg some (hc 1 (by decide))
  · exact congrArg some (hc 2 (by decide))
  · exact congrArg some (hc 3 (by decide))
  · exact congrArg some (hc 4 (by decide))
  · exact congrArg some (hc 5 (by decide))
  · exact congrArg some (hc 6 (by decide))
  · exact congrArg some (hc 7 (by decide))
theorem cr_q_digest {V : cr_Hp} {b : Nat → Int32} {n k : Nat} (hB : cr_B b n k) (hC : cr_C 0 V b n k) (hV : V 160 = b) (hS : cr_St V) : ∃ r, f_X7_digest V = some r ∧ f_X8_digest V = some r := by
  have hn := hB.1
  have hk := hB.2.1
  have v2 : V 0 2 = nI n := (hC.2.1 0 (by decide)).trans hB.2.2.1
  have v3 : V 0 3 = nI k := (hC.2.1 1 (by decide)).trans hB.2.2.2.1
  unfold f_X7_digest f_X8_digest
  refine cr_two 8 (fun i hi x => ⟨((31 : Int64) * x) + (b i).toInt64, ?_, ?_⟩) (fun x => ⟨x, ?_, ?_⟩) (by decide) (fun h1 => ?_)
  · show f_X7_digest_l6 x (nI i) V = _
    unfold f_X7_digest_l6
    rw [cr_L8, if_neg (nI_ge hi (by decide)), cr_count hC hi, cr_bd_some, cr_1]; rfl
  · show f_X8_digest_l6 x (nI i) V = _
    unfold f_X8_digest_l6
    rw [cr_L7, if_neg (nI_nlt (by omega) (by decide)), cr_gd_e (cr_ix_nI (by omega) (by decide)), nI_clamp (by omega), hV, cr_lt_e, cr_1]
  · show f_X7_digest_l6 x (nI 8) V = _
    unfold f_X7_digest_l6
    rw [cr_L8, if_pos (nI_le (Nat.le_refl 8) (by decide))]
  · show f_X8_digest_l6 x (nI 8) V = _
    unfold f_X8_digest_l6
    rw [if_pos (by decide)]
  refine cr_two n (fun i hi x => ?_) (fun x => ⟨x, ?_, ?_⟩) (by omega) (fun h2 => ?_)
  · suffices hz : ∃ z, cr_bd (cr_it (fun (q : Int64 × Int32) => f_X7_digest_l45 (nI i) q.1 q.2 V) cr_FU (x, (0 : Int32))) (fun (u1_45_71 : Int64) => some (Sum.inl (β := Int64) (u1_45_71, ((nI i) + (1 : Int32))))) = some z ∧ cr_bd (cr_it (fun (q : Int64 × Int32) => f_X8_digest_l47 (nI i) q.1 q.2 V) cr_FU (x, (0 : Int32))) (fun (u1_45_71 : Int64) => some (Sum.inl (β := Int64) (u1_45_71, ((nI i) + (1 : Int32))))) = some z ∧ ∃ y, z = Sum.inl (y, nI (i + 1)) by
      obtain ⟨z, z1, z2, y, rfl⟩ := hz
      refine ⟨y, ?_, ?_⟩
      · show f_X7_digest_l31 x (nI i) V = _
        unfold f_X7_digest_l31
        rw [v2, if_neg (nI_ge hi (by omega))]; exact z1
      · show f_X8_digest_l34 x (nI i) V = _
        unfold f_X8_digest_l34
        rw [cr_G0, cr_T0, hV, hB.2.2.1, if_neg (nI_ge hi (by omega))]; exact z2
    obtain ⟨r, r1, r2⟩ := cr_two_go (P := fun _ _ => True) (f := fun (q : Int64 × Int32) => f_X7_digest_l45 (nI i) q.1 q.2 V) (g := fun (q : Int64 × Int32) => f_X8_digest_l47 (nI i) q.1 q.2 V) (n := 6) (fun c hc x => ⟨((31 : Int64) * x) + (sp_mb b k i c).toInt64, by
        show f_X7_digest_l45 (nI i) x (nI c) V = _
        unfold f_X7_digest_l45
        rw [cr_L6, if_neg (nI_ge hc (by decide)), cr_marble hB hC hi hc, cr_bd_some, cr_1]; rfl, by
        show f_X8_digest_l47 (nI i) x (nI c) V = _
        unfold f_X8_digest_l47
        rw [cr_L5, if_neg (nI_nlt (by omega) (by decide)), cr_ofMarble hB hV hi hc, cr_bd_some, cr_1]⟩) (fun x => ⟨x, by
        show f_X7_digest_l45 (nI i) x (nI 6) V = _
        unfold f_X7_digest_l45
        rw [cr_L6, if_pos (nI_le (Nat.le_refl 6) (by decide))], by
        show f_X8_digest_l47 (nI i) x (nI 6) V = _
        unfold f_X8_digest_l47
        rw [if_pos (by decide)]⟩) 6 0 cr_FU x rfl (by decide)
    exact ⟨_, cr_bd_e r1, cr_bd_e r2, r, by rw [cr_1]⟩
  · show f_X7_digest_l31 x (nI n) V = _
    unfold f_X7_digest_l31
    rw [v2, if_pos (nI_le (Nat.le_refl n) (by omega))]
  · show f_X8_digest_l34 x (nI n) V = _
    unfold f_X8_digest_l34
    rw [cr_G0, cr_T0, hV, hB.2.2.1, if_pos (nI_le (Nat.le_refl n) (by omega))]
  refine cr_two k (fun i hi x => ?_) (fun x => ⟨x, ?_, ?_⟩) (by omega) (fun h3 => ?_)
  · suffices hz : ∃ z, cr_bd (cr_it (fun (q : Int64 × Int32) => f_X7_digest_l93 (nI i) q.1 q.2 V) cr_FU (x, (0 : Int32))) (fun (u1_45_71 : Int64) => some (Sum.inl (β := Int64) (u1_45_71, ((nI i) + (1 : Int32))))) = some z ∧ cr_bd (cr_it (fun (q : Int64 × Int32) => f_X8_digest_l95 (nI i) q.1 q.2 V) cr_FU (x, (0 : Int32))) (fun (u1_45_71 : Int64) => some (Sum.inl (β := Int64) (u1_45_71, ((nI i) + (1 : Int32))))) = some z ∧ ∃ y, z = Sum.inl (y, nI (i + 1)) by
      obtain ⟨z, z1, z2, y, rfl⟩ := hz
      refine ⟨y, ?_, ?_⟩
      · show f_X7_digest_l79 x (nI i) V = _
        unfold f_X7_digest_l79
        rw [v3, if_neg (nI_ge hi (by omega))]; exact z1
      · show f_X8_digest_l82 x (nI i) V = _
        unfold f_X8_digest_l82
        rw [cr_G1, cr_T1, hV, hB.2.2.2.1, if_neg (nI_ge hi (by omega))]; exact z2
    obtain ⟨r, r1, r2⟩ := cr_two_go (P := fun _ _ => True) (f := fun (q : Int64 × Int32) => f_X7_digest_l93 (nI i) q.1 q.2 V) (g := fun (q : Int64 × Int32) => f_X8_digest_l95 (nI i) q.1 q.2 V) (n := 5) (fun c hc x => ⟨((31 : Int64) * x) + (sp_rg b n i c).toInt64, by
        show f_X7_digest_l93 (nI i) x (nI c) V = _
        unfold f_X7_digest_l93
        rw [cr_L5, if_neg (nI_ge hc (by decide)), cr_ring hB hC hi hc, cr_bd_some, cr_1]; rfl, by
        show f_X8_digest_l95 (nI i) x (nI c) V = _
        unfold f_X8_digest_l95
        rw [cr_L4, if_neg (nI_nlt (by omega) (by decide)), cr_ofRing hB hV hi hc, cr_bd_some, cr_1]⟩) (fun x => ⟨x, by
        show f_X7_digest_l93 (nI i) x (nI 5) V = _
        unfold f_X7_digest_l93
        rw [cr_L5, if_pos (nI_le (Nat.le_refl 5) (by decide))], by
        show f_X8_digest_l95 (nI i) x (nI 5) V = _
        unfold f_X8_digest_l95
        rw [if_pos (by decide)]⟩) 5 0 cr_FU x rfl (by decide)
    exact ⟨_, cr_bd_e r1, cr_bd_e r2, r, by rw [cr_1]⟩
  · show f_X7_digest_l79 x (nI k) V = _
    unfold f_X7_digest_l79
    rw [v3, if_pos (nI_le (Nat.le_refl k) (by omega))]
  · show f_X8_digest_l82 x (nI k) V = _
    unfold f_X8_digest_l82
    rw [cr_G1, cr_T1, hV, hB.2.2.2.1, if_pos (nI_le (Nat.le_refl k) (by omega))]
  refine cr_two 3 (fun i hi x => ⟨((31 : Int64) * x) + (sp_sc b (nI i) n).toInt64, ?_, ?_⟩) (fun x => ⟨x, ?_, ?_⟩) (by decide) (fun h4 => ?_)
  · show f_X7_digest_l126 x (nI i) V = _
    unfold f_X7_digest_l126 f_X7_score
    rw [cr_L3, if_neg (nI_ge hi (by decide)), cr_isPlY hi, cr_bd_some, if_neg (by decide), cr_points hB hC, cr_bd_some, cr_bd_some, cr_1]; rfl
  · show f_X8_digest_l130 x (nI i) V = _
    unfold f_X8_digest_l130
    rw [cr_L3, if_neg (nI_ge hi (by decide)), cr_scoreOf hB hV, cr_bd_some, cr_1]
  · show f_X7_digest_l126 x (nI 3) V = _
    unfold f_X7_digest_l126
    rw [cr_L3, if_pos (nI_le (Nat.le_refl 3) (by decide))]
  · show f_X8_digest_l130 x (nI 3) V = _
    unfold f_X8_digest_l130
    rw [cr_L3, if_pos (nI_le (Nat.le_refl 3) (by decide))]
  rw [cr_leader hB hC, cr_findLeader hB hV]
  refine cr_two (x := ((31 : Int64) * h4) + (sp_ld b n 2).toInt64) n (fun i hi x => ?_) (fun x => ⟨x, ?_, ?_⟩) (by omega) (fun h5 => ⟨h5, rfl, rfl⟩)
  · by_cases l : cr_lie b i
    · obtain ⟨r, r1, r2⟩ := cr_way hB hC hV hS hi l
      refine ⟨((31 : Int64) * x) + r.toInt64, ?_, ?_⟩
      · show f_X7_digest_l160 x (nI i) V = _
        unfold f_X7_digest_l160
        rw [v2, if_neg (nI_ge hi (by omega)), r1, cr_bd_some, cr_1]; rfl
      · show f_X8_digest_l168 x (nI i) V = _
        unfold f_X8_digest_l168
        rw [cr_G0, cr_T0, hV, hB.2.2.1, if_neg (nI_ge hi (by omega)), cr_mthere (by omega) hV l, cr_bd_some, if_neg (by decide), r2, cr_bd_some, cr_1]
    · refine ⟨((31 : Int64) * x) + (-1003 : Int32).toInt64, ?_, ?_⟩
      · show f_X7_digest_l160 x (nI i) V = _
        unfold f_X7_digest_l160
        rw [v2, if_neg (nI_ge hi (by omega)), cr_way0 hB hC hi l, cr_bd_some, cr_1]; rfl
      · show f_X8_digest_l168 x (nI i) V = _
        unfold f_X8_digest_l168
        rw [cr_G0, cr_T0, hV, hB.2.2.1, if_neg (nI_ge hi (by omega)), cr_mthere0 (by omega) hV l, cr_bd_some, if_pos (by decide), cr_1]
  · show f_X7_digest_l160 x (nI n) V = _
    unfold f_X7_digest_l160
    rw [v2, if_pos (nI_le (Nat.le_refl n) (by omega))]
  · show f_X8_digest_l168 x (nI n) V = _
    unfold f_X8_digest_l168
    rw [cr_G0, cr_T0, hV, hB.2.2.1, if_pos (nI_le (Nat.le_refl n) (by omega))]
