/-! bestFlick -/
def sp_bi (Z : Nat → Nat → Int32) (S : Nat) (q : Int32 × Int32) : Nat → Int32 × Int32
  | 0 => q
  | d + 1 => if Z d S ≤ (sp_bi Z S q d).1 then sp_bi Z S q d else (Z d S, ((100 : Int32) * nI d) + nI S)
def sp_bo (Z : Nat → Nat → Int32) : Nat → Int32 × Int32
  | 0 => (0, -1006)
  | i + 1 => sp_bi Z (i + 1) (sp_bo Z i) 8
def sp_Z (n k j p : Nat) (b : Nat → Int32) (d S : Nat) (z : Int32) : Prop := ∃ m1 dx dy S' h w ht b1, sp_E n k (j, cr_sx d, cr_sy d, S, 0, 0, fun _ => false, b) (m1, dx, dy, S', h, w, ht, b1) ∧ z = (sp_tk k (nI p) (sp_ra b k) ht b1 n).2.2.1
theorem sp_Z_det {n k j p d S : Nat} {b : Nat → Int32} {z z' : Int32} (h : sp_Z n k j p b d S z) (h' : sp_Z n k j p b d S z') : z = z' := by
  obtain ⟨m1, dx, dy, S1, h1, w1, ht1, b1, e1, rfl⟩ := h
  obtain ⟨m2, dx2, dy2, S2, h2, w2, ht2, b2, e2, rfl⟩ := h'
  have det := sp_E_det e2 e1
  injection det with d1 det
  injection det with d2 det
  injection det with d3 det
  injection det with d4 det
  injection det with d5 det
  injection det with d6 det
  injection det with d7 d8
  subst d7 d8
  rfl
theorem cr_bestC (N : Nat) (hN : N = 40) {V : cr_Hp} {b : Nat → Int32} {n k m L j p : Nat} {H : Nat → Nat → Int32} {T : Nat → Int32} {Z : Nat → Nat → Int32} (hI : cr_IC V b n k m H L T) (hj : j < n) (hp : p < 3) (ho : b (8 + 5 * j + 3) = nI p) (hZ : ∀ d S, d < 8 → S ≤ 40 → sp_Z n k j p b d S (Z d S)) :
    ∃ W, cr_it (fun (q : Int32 × Int32 × Int32 × cr_Hp) => f_X7_bestFlick_l38 (nI j) q.1 q.2.1 q.2.2.1 q.2.2.2) cr_FU ((0 : Int32), (-1006 : Int32), (1 : Int32), V) = some ((sp_bo Z N).2, W) ∧ cr_IC W b n k m H L T ∧ ∀ c, 155 ≤ c → W c = V c := by
  obtain ⟨r, e, hr⟩ := cr_inv (f := fun (q : Int32 × Int32 × Int32 × cr_Hp) => f_X7_bestFlick_l38 (nI j) q.1 q.2.1 q.2.2.1 q.2.2.2) (fun i s => s.1 = (sp_bo Z i).1 ∧ s.2.1 = (sp_bo Z i).2 ∧ s.2.2.1 = nI (i + 1) ∧ cr_IC s.2.2.2 b n k m H L T ∧ ∀ c, 155 ≤ c → s.2.2.2 c = V c) (fun r => r.1 = (sp_bo Z N).2 ∧ cr_IC r.2 b n k m H L T ∧ ∀ c, 155 ≤ c → r.2 c = V c) (n := N) (fun i hi s hs => by
      obtain ⟨s1, s2, s3, W⟩ := s
      obtain ⟨h1, h2, h3, h4, h5⟩ := hs
      dsimp only at h1 h2 h3 h4 h5
      subst h1 h2 h3
      obtain ⟨D, hD⟩ : ∃ D, D = 8 := ⟨8, rfl⟩
      have eo : sp_bo Z (i + 1) = sp_bi Z (i + 1) (sp_bo Z i) D := by rw [hD, sp_bo]
      rw [eo]
      obtain ⟨r, e, hr⟩ := cr_inv (f := fun (q : Int32 × Int32 × Int32 × cr_Hp) => f_X7_bestFlick_l48 (nI j) (nI (i + 1)) q.1 q.2.1 q.2.2.1 q.2.2.2) (fun d s => s.1 = (sp_bi Z (i + 1) (sp_bo Z i) d).1 ∧ s.2.1 = (sp_bi Z (i + 1) (sp_bo Z i) d).2 ∧ s.2.2.1 = nI d ∧ cr_IC s.2.2.2 b n k m H L T ∧ ∀ c, 155 ≤ c → s.2.2.2 c = V c) (fun r => r.1 = (sp_bi Z (i + 1) (sp_bo Z i) D).1 ∧ r.2.1 = (sp_bi Z (i + 1) (sp_bo Z i) D).2 ∧ cr_IC r.2.2 b n k m H L T ∧ ∀ c, 155 ≤ c → r.2.2 c = V c) (n := D) (fun d hd s hs => by
          obtain ⟨s1, s2, s3, W⟩ := s
          obtain ⟨h1, h2, h3, h4, h5⟩ := hs
          dsimp only at h1 h2 h3 h4 h5
          subst h1 h2 h3
          obtain ⟨m1, dx1, dy1, S1, h1', w1, ht1, b1, W1, zE, -, e1, hI1, -, x1, -, -, -, -, hf1⟩ := cr_try h4 hj (show d < 8 by omega) (show i + 1 ≤ 40 by omega) hp ho
          have ez : W1 153 1 = Z d (i + 1) := by rw [x1]; exact sp_Z_det ⟨_, _, _, _, _, _, _, _, zE, rfl⟩ (hZ d (i + 1) (by omega) (by omega))
          show ∃ s', f_X7_bestFlick_l48 (nI j) (nI (i + 1)) (sp_bi Z (i + 1) (sp_bo Z i) d).1 (sp_bi Z (i + 1) (sp_bo Z i) d).2 (nI d) W = some (.inl s') ∧ _
          unfold f_X7_bestFlick_l48
          rw [cr_L8, if_neg (nI_ge (show d < 8 by omega) (by decide)), e1, cr_bd_some, ez, cr_1, cr_lt_e]
          by_cases hz : Z d (i + 1) ≤ (sp_bi Z (i + 1) (sp_bo Z i) d).1
          · have es : sp_bi Z (i + 1) (sp_bo Z i) (d + 1) = sp_bi Z (i + 1) (sp_bo Z i) d := by rw [sp_bi, if_pos hz]
            rw [if_pos hz]
            exact ⟨_, rfl, by rw [es], by rw [es], rfl, hI1, fun c hc => by rw [← h5 c hc]; exact hf1 c hc⟩
          · have es : sp_bi Z (i + 1) (sp_bo Z i) (d + 1) = (Z d (i + 1), ((100 : Int32) * nI d) + nI (i + 1)) := by rw [sp_bi, if_neg hz]
            rw [if_neg hz]
            exact ⟨_, rfl, by rw [es], by rw [es], rfl, hI1, fun c hc => by rw [← h5 c hc]; exact hf1 c hc⟩) (fun s hs => by
          obtain ⟨s1, s2, s3, W⟩ := s
          obtain ⟨h1, h2, h3, h4, h5⟩ := hs
          dsimp only at h1 h2 h3 h4 h5
          subst h1 h2 h3
          refine ⟨((sp_bi Z (i + 1) (sp_bo Z i) D).1, (sp_bi Z (i + 1) (sp_bo Z i) D).2, W), ?_, rfl, rfl, h4, h5⟩
          show f_X7_bestFlick_l48 (nI j) (nI (i + 1)) (sp_bi Z (i + 1) (sp_bo Z i) D).1 (sp_bi Z (i + 1) (sp_bo Z i) D).2 (nI D) W = _
          unfold f_X7_bestFlick_l48
          rw [if_pos (by rw [hD]; decide)]) D 0 cr_FU ((sp_bo Z i).1, (sp_bo Z i).2, 0, W) (by omega) (show D < 100000 by omega) ⟨rfl, rfl, rfl, h4, h5⟩
      obtain ⟨r1, r2, r3⟩ := r
      obtain ⟨g1, g2, g3, g4⟩ := hr
      dsimp only at g1 g2 g3 g4
      subst g1 g2
      show ∃ s', f_X7_bestFlick_l38 (nI j) (sp_bo Z i).1 (sp_bo Z i).2 (nI (i + 1)) W = some (.inl s') ∧ _
      unfold f_X7_bestFlick_l38
      rw [cr_L40, if_neg (nI_nlt (by omega) (by decide)), e, cr_bd_some, cr_1]
      exact ⟨_, rfl, rfl, rfl, rfl, g3, g4⟩) (fun s hs => by
      obtain ⟨s1, s2, s3, W⟩ := s
      obtain ⟨h1, h2, h3, h4, h5⟩ := hs
      dsimp only at h1 h2 h3 h4 h5
      subst h1 h2 h3
      refine ⟨((sp_bo Z N).2, W), ?_, rfl, h4, h5⟩
      show f_X7_bestFlick_l38 (nI j) (sp_bo Z N).1 (sp_bo Z N).2 (nI (N + 1)) W = _
      unfold f_X7_bestFlick_l38
      rw [if_pos (by rw [hN]; decide)]) N 0 cr_FU ((0 : Int32), (-1006 : Int32), (1 : Int32), V) (by omega) (show N < 100000 by omega) ⟨rfl, rfl, rfl, hI, fun _ _ => rfl⟩
  obtain ⟨r1, r2⟩ := r
  obtain ⟨g1, g3, g4⟩ := hr
  dsimp only at g1 g3 g4
  subst g1
  exact ⟨r2, e, g3, g4⟩
theorem cr_bestM (N : Nat) (hN : N = 40) {V : cr_Hp} {b : Nat → Int32} {n k m L j p : Nat} {H : Nat → Nat → Int32} {T : Nat → Int32} {Z : Nat → Nat → Int32} (hB : cr_B b n k) (hM : cr_IM V b m H L T) (h161 : ∀ t, t < 80 → V 161 t = b t) (hj : j < n) (hp : p < 3) (ho : b (8 + 5 * j + 3) = nI p) (hZ : ∀ d S, d < 8 → S ≤ 40 → sp_Z n k j p b d S (Z d S)) :
    ∃ W, cr_it (fun (q : Int32 × Int32 × Int32 × cr_Hp) => f_X8_bestFlick_l46 (nI j) q.1 q.2.1 q.2.2.1 q.2.2.2) cr_FU ((-1006 : Int32), (0 : Int32), (1 : Int32), V) = some ((sp_bo Z N).2, W) ∧ cr_IM W b m H L T ∧ ∀ c, c < 159 → W c = V c := by
  obtain ⟨r, e, hr⟩ := cr_inv (f := fun (q : Int32 × Int32 × Int32 × cr_Hp) => f_X8_bestFlick_l46 (nI j) q.1 q.2.1 q.2.2.1 q.2.2.2) (fun i s => s.1 = (sp_bo Z i).2 ∧ s.2.1 = (sp_bo Z i).1 ∧ s.2.2.1 = nI (i + 1) ∧ cr_IM s.2.2.2 b m H L T ∧ (∀ c, c < 159 → s.2.2.2 c = V c) ∧ ∀ t, t < 80 → s.2.2.2 161 t = b t) (fun r => r.1 = (sp_bo Z N).2 ∧ cr_IM r.2 b m H L T ∧ ∀ c, c < 159 → r.2 c = V c) (n := N) (fun i hi s hs => by
      obtain ⟨s1, s2, s3, W⟩ := s
      obtain ⟨h1, h2, h3, h4, h5, h6⟩ := hs
      dsimp only at h1 h2 h3 h4 h5 h6
      subst h1 h2 h3
      obtain ⟨D, hD⟩ : ∃ D, D = 8 := ⟨8, rfl⟩
      have eo : sp_bo Z (i + 1) = sp_bi Z (i + 1) (sp_bo Z i) D := by rw [hD, sp_bo]
      rw [eo]
      obtain ⟨r, e, hr⟩ := cr_inv (f := fun (q : Int32 × Int32 × Int32 × cr_Hp) => f_X8_bestFlick_l56 (nI j) (nI (i + 1)) q.1 q.2.1 q.2.2.1 q.2.2.2) (fun d s => s.1 = (sp_bi Z (i + 1) (sp_bo Z i) d).2 ∧ s.2.1 = (sp_bi Z (i + 1) (sp_bo Z i) d).1 ∧ s.2.2.1 = nI d ∧ cr_IM s.2.2.2 b m H L T ∧ (∀ c, c < 159 → s.2.2.2 c = V c) ∧ ∀ t, t < 80 → s.2.2.2 161 t = b t) (fun r => r.1 = (sp_bi Z (i + 1) (sp_bo Z i) D).2 ∧ r.2.1 = (sp_bi Z (i + 1) (sp_bo Z i) D).1 ∧ cr_IM r.2.2 b m H L T ∧ (∀ c, c < 159 → r.2.2 c = V c) ∧ ∀ t, t < 80 → r.2.2 161 t = b t) (n := D) (fun d hd s hs => by
          obtain ⟨s1, s2, s3, W⟩ := s
          obtain ⟨h1, h2, h3, h4, h5, h6⟩ := hs
          dsimp only at h1 h2 h3 h4 h5 h6
          subst h1 h2 h3
          obtain ⟨m2, dx2, dy2, S2, h2', w2, ht2, b2, W3, zE2, e3, y160, -, -, y14, -, -, -, hf3, h9, zK⟩ := cr_mflicks0 hB h4.1 h4.2.2.2.2.2 hj (show d < 8 by omega) (show 1 ≤ i + 1 by omega) (show i + 1 ≤ 40 by omega) hp
          obtain ⟨W4, e4, z160, hf4⟩ := cr_back hB zK y160 (fun t ht => by rw [hf3 161 (by omega) (by omega) (by omega)]; exact h6 t ht)
          have hM4 : cr_IM W4 b m H L T := cr_IM_c h4 (fun c _ c1 c2 _ c4 => by rw [hf4 c c2]; exact hf3 c c1 c2 c4) (fun t ht => by rw [hf4 _ (by omega)]; exact h9 t ht) z160
          have hF4 : ∀ c, c < 159 → W4 c = V c := fun c hc => by rw [hf4 c (by omega), hf3 c (by omega) (by omega) (by omega)]; exact h5 c hc
          have h164 : ∀ t, t < 80 → W4 161 t = b t := fun t ht => by rw [hf4 161 (by omega), hf3 161 (by omega) (by omega) (by omega)]; exact h6 t ht
          have ez : W3 159 14 = Z d (i + 1) := by rw [y14]; exact sp_Z_det ⟨_, _, _, _, _, _, _, _, zE2, rfl⟩ (hZ d (i + 1) (by omega) (by omega))
          show ∃ s', f_X8_bestFlick_l56 (nI j) (nI (i + 1)) (sp_bi Z (i + 1) (sp_bo Z i) d).2 (sp_bi Z (i + 1) (sp_bo Z i) d).1 (nI d) W = some (.inl s') ∧ _
          unfold f_X8_bestFlick_l56
          rw [cr_L8, if_neg (nI_ge (show d < 8 by omega) (by decide)), cr_mp3 (by have := hB.1; omega), cr_bd_some, h4.1, ho, e3, cr_bd_some, ez]
          unfold f_X8_bestFlick_b98 f_X8_bestFlick_b115
          rw [ez, e4, cr_bd_some, cr_bd_some, cr_bd_some, cr_bd_some, cr_1]
          by_cases hz : Z d (i + 1) ≤ (sp_bi Z (i + 1) (sp_bo Z i) d).1
          · have es : sp_bi Z (i + 1) (sp_bo Z i) (d + 1) = sp_bi Z (i + 1) (sp_bo Z i) d := by rw [sp_bi, if_pos hz]
            rw [if_pos hz, if_pos hz]
            exact ⟨_, rfl, by rw [es], by rw [es], rfl, hM4, hF4, h164⟩
          · have es : sp_bi Z (i + 1) (sp_bo Z i) (d + 1) = (Z d (i + 1), ((100 : Int32) * nI d) + nI (i + 1)) := by rw [sp_bi, if_neg hz]
            rw [if_neg hz, if_neg hz]
            exact ⟨_, rfl, by rw [es], by rw [es], rfl, hM4, hF4, h164⟩) (fun s hs => by
          obtain ⟨s1, s2, s3, W⟩ := s
          obtain ⟨h1, h2, h3, h4, h5, h6⟩ := hs
          dsimp only at h1 h2 h3 h4 h5 h6
          subst h1 h2 h3
          refine ⟨((sp_bi Z (i + 1) (sp_bo Z i) D).2, (sp_bi Z (i + 1) (sp_bo Z i) D).1, W), ?_, rfl, rfl, h4, h5, h6⟩
          show f_X8_bestFlick_l56 (nI j) (nI (i + 1)) (sp_bi Z (i + 1) (sp_bo Z i) D).2 (sp_bi Z (i + 1) (sp_bo Z i) D).1 (nI D) W = _
          unfold f_X8_bestFlick_l56
          rw [if_pos (by rw [hD]; decide)]) D 0 cr_FU ((sp_bo Z i).2, (sp_bo Z i).1, 0, W) (by omega) (show D < 100000 by omega) ⟨rfl, rfl, rfl, h4, h5, h6⟩
      obtain ⟨r1, r2, r3⟩ := r
      obtain ⟨g1, g2, g3, g4, g5⟩ := hr
      dsimp only at g1 g2 g3 g4 g5
      subst g1 g2
      show ∃ s', f_X8_bestFlick_l46 (nI j) (sp_bo Z i).2 (sp_bo Z i).1 (nI (i + 1)) W = some (.inl s') ∧ _
      unfold f_X8_bestFlick_l46
      rw [cr_L40, if_neg (nI_nlt (by omega) (by decide)), e, cr_bd_some, cr_1]
      exact ⟨_, rfl, rfl, rfl, rfl, g3, g4, g5⟩) (fun s hs => by
      obtain ⟨s1, s2, s3, W⟩ := s
      obtain ⟨h1, h2, h3, h4, h5, h6⟩ := hs
      dsimp only at h1 h2 h3 h4 h5 h6
      subst h1 h2 h3
      refine ⟨((sp_bo Z N).2, W), ?_, rfl, h4, h5⟩
      show f_X8_bestFlick_l46 (nI j) (sp_bo Z N).2 (sp_bo Z N).1 (nI (N + 1)) W = _
      unfold f_X8_bestFlick_l46
      rw [if_pos (by rw [hN]; decide)]) N 0 cr_FU ((-1006 : Int32), (0 : Int32), (1 : Int32), V) (by omega) (show N < 100000 by omega) ⟨rfl, rfl, rfl, hM, fun _ _ => rfl, h161⟩
  obtain ⟨r1, r2⟩ := r
  obtain ⟨g1, g3, g4⟩ := hr
  dsimp only at g1 g3 g4
  subst g1
  exact ⟨r2, e, g3, g4⟩
theorem cr_m_best {V : cr_Hp} (h : cr_I V) (x : Int32) : ∃ r V1 V2, f_X7_bestFlick x V = some (r, V1) ∧ f_X8_bestFlick x V1 = some (r, V2) ∧ cr_I V2 := by
  obtain ⟨b, n, k, m, H, L, T, hI, hM⟩ := h
  have same : cr_I V := ⟨b, n, k, m, H, L, T, hI, hM⟩
  have hB := hI.1
  have hC := hI.2.1
  have hn := hB.1
  have hk := hB.2.1
  unfold f_X7_bestFlick f_X8_bestFlick
  rcases cr_any_lt x (n := n) (by omega) with h | ⟨j, hj, rfl⟩
  · refine ⟨-1001, V, V, ?_, ?_, same⟩
    · rw [cr_find_n hB hC h, cr_bd_some, cr_on_0]
    · rw [cr_isM_n hB hM.1 h, cr_bd_some, if_pos (by decide)]
  · have hma := cr_ms_ma (cr_pg_ms hC.1) (show j < 12 by omega)
    rw [cr_find_s hB hC hj, cr_bd_some, cr_on_1, cr_gd_e hma]
    rcases hC.2.2.2.2.1 j hj with ⟨l, l6, -⟩ | ⟨l, l6, -⟩
    · obtain ⟨p, hp, ep⟩ := cr_owner hB hj
      have hz0 : ∀ d, ∃ F : Nat → Int32, ∀ S, d < 8 → S ≤ 40 → sp_Z n k j p b d S (F S) := by
        intro d
        refine (Classical.skolem (p := fun (S : Nat) (z : Int32) => d < 8 → S ≤ 40 → sp_Z n k j p b d S z)).mp (fun S => ?_)
        by_cases hd : d < 8
        · by_cases hS : S ≤ 40
          · obtain ⟨m1, dx1, dy1, S1, h1', w1, ht1, b1, W1, zE, -⟩ := cr_try hI hj hd hS hp ep
            exact ⟨_, fun _ _ => ⟨_, _, _, _, _, _, _, _, zE, rfl⟩⟩
          · exact ⟨0, fun _ h => absurd h hS⟩
        · exact ⟨0, fun h => absurd h hd⟩
      obtain ⟨Z, hZ0⟩ := (Classical.skolem (p := fun (d : Nat) (F : Nat → Int32) => ∀ S, d < 8 → S ≤ 40 → sp_Z n k j p b d S (F S))).mp hz0
      obtain ⟨N, hN⟩ : ∃ N, N = 40 := ⟨40, rfl⟩
      have hZ : ∀ d S, d < 8 → S ≤ 40 → sp_Z n k j p b d S (Z d S) := fun d S => hZ0 d S
      obtain ⟨W1, e1, hI1, hf1⟩ := cr_bestC N hN hI hj hp ep hZ
      have hM1 := cr_IM_fr hM (W := W1) (fun c hc => hf1 c (by omega))
      obtain ⟨W2, e2, y161, hf2⟩ := cr_keep hM1.1
      have hM2 : cr_IM W2 b m H L T := cr_IM_c hM1 (fun c _ _ _ c3 _ => hf2 c c3) (fun t _ => by rw [hf2 _ (by omega)]) (by rw [hf2 _ (by omega)]; exact hM1.1)
      obtain ⟨W3, e3, hM3, hf3⟩ := cr_bestM N hN hB hM2 y161 hj hp ep hZ
      refine ⟨(sp_bo Z N).2, W1, W3, ?_, ?_, ⟨b, n, k, m, H, L, T, cr_IC_fr hI1 (fun c hc => by rw [hf3 c hc, hf2 c (by omega)]), hM3⟩⟩
      · rw [l6, if_neg (by decide), e1, cr_bd_some]; rfl
      · rw [cr_isM_s hB hM1.1 hj, cr_bd_some, if_neg (by decide), cr_mthere (by omega) hM1.1 l, cr_bd_some, if_neg (by decide), e2, cr_bd_some, e3, cr_bd_some]; rfl
    · refine ⟨-1003, V, V, ?_, ?_, same⟩
      · rw [l6, if_pos (by decide)]
      · rw [cr_isM_s hB hM.1 hj, cr_bd_some, if_neg (by decide), cr_mthere0 (by omega) hM.1 l, cr_bd_some, if_pos (by decide)]
