/-! what a flick would bring, by the law's copies -/
theorem cr_Lcopy {V V0 : cr_Hp} {x0 x1 x2 x3 : Int32} (hV : ∀ c, c < 163 → V0 c = V c) : ∃ W, cr_it (fun (q : Int32 × cr_Hp) => f_L_then_l26 159 160 161 163 (163 + 1) (163 + 2) (163 + 3) x0 x1 x2 x3 q.1 q.2) cr_FU ((0 : Int32), V0) = some W ∧ (∀ t, t < 8 → W 163 t = V 159 t) ∧ (∀ t, t < 60 → W 164 t = V 160 t) ∧ (∀ t, t < 12 → W 165 t = V 161 t) ∧ ∀ c, c ≠ 163 → c ≠ 164 → c ≠ 165 → W c = V0 c := by
  refine cr_invH (F := fun x W => f_L_then_l26 159 160 161 163 (163 + 1) (163 + 2) (163 + 3) x0 x1 x2 x3 x W) (V := V0) (fun i W => (∀ t, t < 8 → t < i → W 163 t = V 159 t) ∧ (∀ t, t < 60 → t < i → W 164 t = V 160 t) ∧ (∀ t, t < 12 → t < i → W 165 t = V 161 t) ∧ ∀ c, c ≠ 163 → c ≠ 164 → c ≠ 165 → W c = V0 c) (fun W => (∀ t, t < 8 → W 163 t = V 159 t) ∧ (∀ t, t < 60 → W 164 t = V 160 t) ∧ (∀ t, t < 12 → W 165 t = V 161 t) ∧ ∀ c, c ≠ 163 → c ≠ 164 → c ≠ 165 → W c = V0 c) 60
    ⟨fun t _ h => absurd h (by omega), fun t _ h => absurd h (by omega), fun t _ h => absurd h (by omega), fun _ _ _ _ => rfl⟩ (fun i hi W ⟨w1, w2, w3, w4⟩ => ?_) (fun W ⟨w1, w2, w3, w4⟩ => ⟨W, ?_, fun t ht => w1 t ht (by omega), fun t ht => w2 t ht ht, fun t ht => w3 t ht (by omega), w4⟩) (by decide)
  · obtain ⟨V1, eV1⟩ : ∃ V1, V1 = cr_pt W 164 i (V 160 i) := ⟨_, rfl⟩
    have v159 : ∀ t, V1 159 t = V 159 t := fun t => by rw [eV1, cr_pt_ne (by decide), w4 _ (by decide) (by decide) (by decide), hV _ (by decide)]
    have v161 : ∀ t, V1 161 t = V 161 t := fun t => by rw [eV1, cr_pt_ne (by decide), w4 _ (by decide) (by decide) (by decide), hV _ (by decide)]
    have b60 : ∀ V2 : cr_Hp, (V2 159 = V1 159) → (∀ t, t < 8 → t < i → V2 163 t = V 159 t) → ∃ W', f_L_then_b60 159 160 161 163 (163 + 1) (163 + 2) (163 + 3) x0 x1 x2 x3 (nI i) V2 = some (.inl (nI (i + 1), W')) ∧ (∀ t, t < 8 → t < i + 1 → W' 163 t = V 159 t) ∧ ∀ c, c ≠ 163 → W' c = V2 c := by
      intro V2 h159 h163
      unfold f_L_then_b60
      rw [cr_1]
      by_cases h8 : i < 8
      · rw [if_neg (show ¬ (8 : Int32) ≤ nI i by rw [cr_L8]; exact nI_ge h8 (by decide)), cr_gz h8 (by decide), cr_gz h8 (by decide), nI_clamp (by omega), cr_lt_e]
        refine ⟨_, rfl, fun t ht hti => ?_, fun c hc => cr_pt_ne hc⟩
        rw [cr_pv]
        by_cases e : t = i
        · rw [if_pos ⟨rfl, e⟩, h159, v159, e]
        · rw [if_neg (fun h => e h.2)]; exact h163 t ht (by omega)
      · rw [if_pos (show (8 : Int32) ≤ nI i by rw [cr_L8]; exact nI_le (by omega) (by omega))]
        exact ⟨_, rfl, fun t ht _ => h163 t ht (by omega), fun _ _ => rfl⟩
    have a60 : ¬ (60 : Int32) ≤ nI i := by rw [cr_L60]; exact nI_ge hi (by decide)
    have e42 : cr_pt W (163 + 1) (nI i).toNatClampNeg (W 160 (nI i).toNatClampNeg) = V1 := by
      rw [nI_clamp (by omega), eV1, w4 160 (by decide) (by decide) (by decide), hV 160 (by decide)]
    unfold f_L_then_l26
    rw [if_neg a60, cr_gz hi (by decide), cr_gz hi (by decide), cr_lt_c e42]
    have w1' : ∀ t, t < 8 → t < i → V1 163 t = V 159 t := fun t h1 h2 => by rw [eV1, cr_pt_ne (by decide)]; exact w1 t h1 h2
    have w2' : ∀ t, t < 60 → t < i + 1 → V1 164 t = V 160 t := fun t h1 h2 => by
      rw [eV1, cr_pv]
      by_cases e : t = i
      · rw [if_pos ⟨rfl, e⟩, e]
      · rw [if_neg (fun h => e h.2)]; exact w2 t h1 (by omega)
    have w4' : ∀ c, c ≠ 163 → c ≠ 164 → c ≠ 165 → V1 c = V0 c := fun c h1 h2 h3 => by rw [eV1, cr_pt_ne h2]; exact w4 c h1 h2 h3
    by_cases h12 : i < 12
    · have e59 : cr_pt V1 (163 + 2) (nI i).toNatClampNeg (V1 161 (nI i).toNatClampNeg) = cr_pt V1 165 i (V 161 i) := by rw [nI_clamp (by omega), v161]
      rw [if_neg (show ¬ (12 : Int32) ≤ nI i by rw [cr_L12]; exact nI_ge h12 (by decide)), cr_gz h12 (by decide), cr_gz h12 (by decide), cr_lt_c e59]
      obtain ⟨W', e, x1, x2⟩ := b60 (cr_pt V1 165 i (V 161 i)) (cr_pt_ne (by decide)) (fun t h1 h2 => by rw [cr_pt_ne (by decide)]; exact w1' t h1 h2)
      refine ⟨W', e, x1, fun t h1 h2 => ?_, fun t h1 h2 => ?_, fun c h1 h2 h3 => ?_⟩
      · rw [x2 _ (by decide), cr_pt_ne (by decide)]; exact w2' t h1 h2
      · rw [x2 _ (by decide), cr_pv]
        by_cases e : t = i
        · rw [if_pos ⟨rfl, e⟩, e]
        · rw [if_neg (fun h => e h.2), eV1, cr_pt_ne (by decide)]; exact w3 t h1 (by omega)
      · rw [x2 _ h1, cr_pt_ne h3]; exact w4' c h1 h2 h3
    · rw [if_pos (show (12 : Int32) ≤ nI i by rw [cr_L12]; exact nI_le (by omega) (by omega))]
      obtain ⟨W', e, x1, x2⟩ := b60 V1 rfl w1'
      refine ⟨W', e, x1, fun t h1 h2 => ?_, fun t h1 h2 => ?_, fun c h1 h2 h3 => ?_⟩
      · rw [x2 _ (by decide)]; exact w2' t h1 h2
      · rw [x2 _ (by decide), eV1, cr_pt_ne (by decide)]; exact w3 t h1 (by omega)
      · rw [x2 _ h1]; exact w4' c h1 h2 h3
  · unfold f_L_then_l26
    rw [if_pos (show (60 : Int32) ≤ nI 60 by decide)]
theorem cr_Lthen {n k j d S p c : Nat} {V : cr_Hp} {b : Nat → Int32} (hB : cr_B b n k) (hR : cr_R 159 160 161 V b n k) (hj : j < n) (hd : d < 8) (hS1 : 1 ≤ S) (hS : S ≤ 40) (hp : p < 3) (ep : b (8 + 5 * j + 3) = nI p) (hc : c < 5) :
    ∃ m dx dy S' h w ht b1 W, sp_E n k (j, cr_sx d, cr_sy d, S, 0, 0, fun _ => false, b) (m, dx, dy, S', h, w, ht, b1) ∧ f_L_then 163 159 160 161 (nI j) (nI d) (nI S) (nI c) V = some (sp_rc c m h (sp_tk k (nI p) (sp_ra b k) ht b1 n).2.1 (sp_tk k (nI p) (sp_ra b k) ht b1 n).2.2.1 b1, W) ∧ ∀ c, c < 163 ∨ 169 ≤ c → W c = V c := by
  have hn := hB.1
  have hk := hB.2.1
  have h12 : j < 12 := by omega
  obtain ⟨V0, eV0⟩ : ∃ V0, V0 = cr_zr (cr_zr (cr_zr (cr_zr V 163) (163 + 1)) (163 + 2)) (163 + 3) := ⟨_, rfl⟩
  have f0 : ∀ c, c < 163 ∨ 169 ≤ c → V0 c = V c := fun c hc => by rw [eV0, cr_zr_ne (by omega), cr_zr_ne (by omega), cr_zr_ne (by omega), cr_zr_ne (by omega)]
  obtain ⟨V1, e1, x1, x2, x3, x4⟩ := cr_Lcopy (V := V) (V0 := V0) (x0 := nI j) (x1 := nI d) (x2 := nI S) (x3 := nI c) (fun c hc => f0 c (Or.inl hc))
  have R1 : cr_R 163 (163 + 1) (163 + 2) V1 b n k := ⟨fun t ht => by rw [x1 t ht]; exact hR.1 t ht, fun i c hi hc => (x2 _ (by omega)).trans (hR.2.1 i c hi hc), fun r c hr hc => (x3 _ (by omega)).trans (hR.2.2 r c hr hc)⟩
  obtain ⟨m, dx, dy, S', h, w, ht, b1, W, zE, e2, -, o0, o1, o2, o3, o4, -, f2⟩ := cr_Lflick hB R1 hj hd hS1 hS hp
  have ow : V1 160 (((5 : Int32) * nI j) + (3 : Int32)).toNatClampNeg = nI p := by
    rw [cr_t53 h12, x4 160 (by decide) (by decide) (by decide), f0 160 (by omega), hR.m3 hj, ep]
  refine ⟨m, dx, dy, S', h, w, ht, b1, W, zE, ?_, fun c hc => by rw [f2 c (by omega), x4 c (by omega) (by omega) (by omega), f0 c hc]⟩
  unfold f_L_then
  rw [cr_lt_e, cr_lt_e, cr_lt_e, cr_lt_e, cr_lt_e, cr_lt_e, cr_lt_e, cr_lt_e, ← eV0, e1, cr_bd_some, cr_g53 h12, ow, e2, cr_bd_some, cr_gz hc (by decide), nI_clamp (by omega)]
  have hc2 : c = 0 ∨ c = 1 ∨ c = 2 ∨ c = 3 ∨ c = 4 := by omega
  rcases hc2 with rfl | rfl | rfl | rfl | rfl
  · rw [o0]; rfl
  · rw [o1]; rfl
  · rw [o2]; rfl
  · rw [o3]; rfl
  · rw [o4]; rfl
