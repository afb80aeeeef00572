/-! the end of an act: all is asked; once the best flick -/
def cr_LI (V : cr_Hp) (b : Nat → Int32) (n k G : Nat) : Prop := cr_IX V b n k ∧ cr_R 159 160 161 V b n k ∧ ∃ g, g ≤ G ∧ V 999 0 = nI g
def cr_LP (t : Nat) (o : Option ((Int32 × cr_Hp) ⊕ cr_Hp)) : Prop := ∃ V' b n k, o = some (.inl (nI (t + 1), V')) ∧ cr_LI V' b n k (400 * (t + 1))
theorem cr_LI.le {V : cr_Hp} {b : Nat → Int32} {n k G G' : Nat} (h : cr_LI V b n k G) (hG : G ≤ G') : cr_LI V b n k G' := by
  obtain ⟨h1, h2, g, h3, h4⟩ := h
  exact ⟨h1, h2, g, by omega, h4⟩
theorem cr_LP.stay {t : Nat} {V : cr_Hp} {b : Nat → Int32} {n k : Nat} (h : cr_LI V b n k (400 * t + 6)) : cr_LP t (some (.inl (nI t + (1 : Int32), V))) := ⟨V, b, n, k, by rw [cr_1], h.le (by omega)⟩
theorem sp_rc_det {n k c m m2 h h2 S S2 : Nat} {q : sp_T} {dx dy w dx2 dy2 w2 P : Int32} {ht ht2 : Nat → Bool} {b1 b2 ra : Nat → Int32} (e1 : sp_E n k q (m, dx, dy, S, h, w, ht, b1)) (e2 : sp_E n k q (m2, dx2, dy2, S2, h2, w2, ht2, b2)) : m = m2 ∧ h = h2 ∧ w = w2 ∧ ht = ht2 ∧ b1 = b2 := by
  have det := sp_E_det e1 e2
  injection det with d1 det
  injection det with d2 det
  injection det with d3 det
  injection det with d4 det
  injection det with d5 det
  injection det with d6 det
  injection det with d7 d8
  exact ⟨d1, d5, d6, d7, d8⟩
theorem cr_Lbest8 (D : Nat) (hD : D = 8) {nL n k j p i g t : Nat} {xs : Nat → Int32} {V V0 : cr_Hp} {b : Nat → Int32} {Z : Nat → Nat → Int32} (hB : cr_B b n k) (hR : cr_R 159 160 161 V0 b n k) (hj : j < n) (hp : p < 3) (ep : b (8 + 5 * j + 3) = nI p) (hZ : ∀ d S, d < 8 → S ≤ 40 → sp_Z n k j p b d S (Z d S)) (hi : i < 40) (hf : ∀ c, c < 163 → V c = V0 c) (hg : V 999 0 = nI g) (hgb : g + 8 < 60000) :
    ∃ W, cr_it (fun (q : Int32 × Int32 × Int32 × cr_Hp) => f_L_law_l1083 nL xs (nI t) (nI j) (nI (i + 1)) q.1 q.2.1 q.2.2.1 q.2.2.2) cr_FU ((sp_bo Z i).2, (sp_bo Z i).1, (0 : Int32), V) = some ((sp_bi Z (i + 1) (sp_bo Z i) D).2, (sp_bi Z (i + 1) (sp_bo Z i) D).1, W) ∧ (∀ c, c < 163 → W c = V0 c) ∧ W 999 0 = nI (g + D) := by
  obtain ⟨r, e, hr⟩ := cr_inv (f := fun (q : Int32 × Int32 × Int32 × cr_Hp) => f_L_law_l1083 nL xs (nI t) (nI j) (nI (i + 1)) q.1 q.2.1 q.2.2.1 q.2.2.2) (fun d s => s.1 = (sp_bi Z (i + 1) (sp_bo Z i) d).2 ∧ s.2.1 = (sp_bi Z (i + 1) (sp_bo Z i) d).1 ∧ s.2.2.1 = nI d ∧ (∀ c, c < 163 → s.2.2.2 c = V0 c) ∧ s.2.2.2 999 0 = nI (g + d)) (fun r => r.1 = (sp_bi Z (i + 1) (sp_bo Z i) D).2 ∧ r.2.1 = (sp_bi Z (i + 1) (sp_bo Z i) D).1 ∧ (∀ c, c < 163 → r.2.2 c = V0 c) ∧ r.2.2 999 0 = nI (g + D)) (n := D) (fun d hd s hs => by
      obtain ⟨s1, s2, s3, W⟩ := s
      obtain ⟨h1, h2, h3, h4, h5⟩ := hs
      dsimp only at h1 h2 h3 h4 h5
      subst h1 h2 h3
      have hRW : cr_R 159 160 161 W b n k := hR.fr (h4 _ (by omega)) (h4 _ (by omega)) (h4 _ (by omega))
      obtain ⟨m1, dx1, dy1, S1, h1', w1, ht1, b1, W1, zE, e1, f1⟩ := cr_Lthen (c := 1) hB hRW hj (show d < 8 by omega) (show 1 ≤ i + 1 by omega) (show i + 1 ≤ 40 by omega) hp ep (by decide)
      have ez : sp_rc 1 m1 h1' (sp_tk k (nI p) (sp_ra b k) ht1 b1 n).2.1 (sp_tk k (nI p) (sp_ra b k) ht1 b1 n).2.2.1 b1 = Z d (i + 1) := sp_Z_det ⟨_, _, _, _, _, _, _, _, zE, rfl⟩ (hZ d (i + 1) (by omega) (by omega))
      rw [ez] at e1
      have e1 : f_L_then 163 159 160 161 (nI j) (nI d) (nI (i + 1)) (1 : Int32) W = some (Z d (i + 1), W1) := e1
      have g1 : W1 999 0 = W 999 0 := by rw [f1 999 (by omega)]
      have gc : (W 999 0).toNatClampNeg = g + d := by rw [h5, nI_clamp (by omega)]
      show ∃ s', f_L_law_l1083 nL xs (nI t) (nI j) (nI (i + 1)) (sp_bi Z (i + 1) (sp_bo Z i) d).2 (sp_bi Z (i + 1) (sp_bo Z i) d).1 (nI d) W = some (.inl s') ∧ _
      unfold f_L_law_l1083
      rw [cr_L8, if_neg (nI_ge (show d < 8 by omega) (by decide)), e1, cr_b2_some, cr_gd_e ⟨g1, by rw [gc]; omega⟩, cr_lt_c (show cr_pt W1 999 0 (nI ((W 999 0).toNatClampNeg + 1)) = cr_pt W1 999 0 (nI (g + (d + 1))) by rw [gc]; rfl)]
      unfold f_L_law_b1126
      rw [cr_1]
      have hF : ∀ c, c < 163 → cr_pt W1 999 0 (nI (g + (d + 1))) c = V0 c := fun c hc => by rw [cr_pt_ne (by omega), f1 c (by omega)]; exact h4 c hc
      have hG : cr_pt W1 999 0 (nI (g + (d + 1))) 999 0 = nI (g + (d + 1)) := by rw [cr_pv, if_pos ⟨rfl, rfl⟩]
      by_cases hz : Z d (i + 1) ≤ (sp_bi Z (i + 1) (sp_bo Z i) d).1
      · have es : sp_bi Z (i + 1) (sp_bo Z i) (d + 1) = sp_bi Z (i + 1) (sp_bo Z i) d := by rw [sp_bi, if_pos hz]
        rw [if_pos hz, if_pos hz]
        exact ⟨_, rfl, by rw [es], by rw [es], rfl, hF, hG⟩
      · have es : sp_bi Z (i + 1) (sp_bo Z i) (d + 1) = (Z d (i + 1), ((100 : Int32) * nI d) + nI (i + 1)) := by rw [sp_bi, if_neg hz]
        rw [if_neg hz, if_neg hz]
        exact ⟨_, rfl, by rw [es], by rw [es], rfl, hF, hG⟩) (fun s hs => by
      obtain ⟨s1, s2, s3, W⟩ := s
      obtain ⟨h1, h2, h3, h4, h5⟩ := hs
      dsimp only at h1 h2 h3 h4 h5
      subst h1 h2 h3
      refine ⟨((sp_bi Z (i + 1) (sp_bo Z i) D).2, (sp_bi Z (i + 1) (sp_bo Z i) D).1, W), ?_, rfl, rfl, h4, h5⟩
      show f_L_law_l1083 nL xs (nI t) (nI j) (nI (i + 1)) (sp_bi Z (i + 1) (sp_bo Z i) D).2 (sp_bi Z (i + 1) (sp_bo Z i) D).1 (nI D) W = _
      unfold f_L_law_l1083
      rw [if_pos (by rw [hD]; decide)]) D 0 cr_FU ((sp_bo Z i).2, (sp_bo Z i).1, 0, V) (by omega) (show D < 100000 by omega) ⟨rfl, rfl, rfl, hf, hg⟩
  obtain ⟨r1, r2, r3⟩ := r
  obtain ⟨g1, g2, g3, g4⟩ := hr
  dsimp only at g1 g2 g3 g4
  subst g1 g2
  exact ⟨r3, e, g3, g4⟩
theorem cr_Lbest40 (N : Nat) (hN : N = 40) {nL n k j p g t : Nat} {xs : Nat → Int32} {V : cr_Hp} {b : Nat → Int32} {Z : Nat → Nat → Int32} (hB : cr_B b n k) (hR : cr_R 159 160 161 V b n k) (hj : j < n) (hp : p < 3) (ep : b (8 + 5 * j + 3) = nI p) (hZ : ∀ d S, d < 8 → S ≤ 40 → sp_Z n k j p b d S (Z d S)) (hg : V 999 0 = nI g) (hgb : g + 400 < 60000) :
    ∃ W, cr_it (fun (q : Int32 × Int32 × Int32 × cr_Hp) => f_L_law_l1073 nL xs (nI t) (nI j) q.1 q.2.1 q.2.2.1 q.2.2.2) cr_FU ((-1006 : Int32), (0 : Int32), (1 : Int32), V) = some ((sp_bo Z N).2, W) ∧ (∀ c, c < 163 → W c = V c) ∧ W 999 0 = nI (g + 8 * N) := by
  obtain ⟨r, e, hr⟩ := cr_inv (f := fun (q : Int32 × Int32 × Int32 × cr_Hp) => f_L_law_l1073 nL xs (nI t) (nI j) q.1 q.2.1 q.2.2.1 q.2.2.2) (fun i s => s.1 = (sp_bo Z i).2 ∧ s.2.1 = (sp_bo Z i).1 ∧ s.2.2.1 = nI (i + 1) ∧ (∀ c, c < 163 → s.2.2.2 c = V c) ∧ s.2.2.2 999 0 = nI (g + 8 * i)) (fun r => r.1 = (sp_bo Z N).2 ∧ (∀ c, c < 163 → r.2 c = V c) ∧ r.2 999 0 = nI (g + 8 * N)) (n := N) (fun i hi s hs => by
      obtain ⟨s1, s2, s3, W⟩ := s
      obtain ⟨h1, h2, h3, h4, h5⟩ := hs
      dsimp only at h1 h2 h3 h4 h5
      subst h1 h2 h3
      obtain ⟨D, hD⟩ : ∃ D, D = 8 := ⟨8, rfl⟩
      have eo : sp_bo Z (i + 1) = sp_bi Z (i + 1) (sp_bo Z i) D := by rw [hD, sp_bo]
      rw [eo]
      obtain ⟨W1, e1, x1, x2⟩ := cr_Lbest8 D hD (nL := nL) (xs := xs) (t := t) hB hR hj hp ep hZ (show i < 40 by omega) h4 h5 (by omega)
      show ∃ s', f_L_law_l1073 nL xs (nI t) (nI j) (sp_bo Z i).2 (sp_bo Z i).1 (nI (i + 1)) W = some (.inl s') ∧ _
      unfold f_L_law_l1073
      rw [if_neg (show ¬ (41 : Int32) ≤ nI (i + 1) by rw [show (41 : Int32) = nI 41 from rfl]; exact nI_ge (by omega) (by decide)), e1, cr_bd_some, cr_u3_e, cr_1]
      exact ⟨_, rfl, rfl, rfl, rfl, x1, by rw [show g + 8 * (i + 1) = g + 8 * i + D by omega]; exact x2⟩) (fun s hs => by
      obtain ⟨s1, s2, s3, W⟩ := s
      obtain ⟨h1, h2, h3, h4, h5⟩ := hs
      dsimp only at h1 h2 h3 h4 h5
      subst h1 h2 h3
      refine ⟨((sp_bo Z N).2, W), ?_, rfl, h4, h5⟩
      show f_L_law_l1073 nL xs (nI t) (nI j) (sp_bo Z N).2 (sp_bo Z N).1 (nI (N + 1)) W = _
      unfold f_L_law_l1073
      rw [if_pos (by rw [hN]; decide)]) N 0 cr_FU ((-1006 : Int32), (0 : Int32), (1 : Int32), V) (by omega) (show N < 100000 by omega) ⟨rfl, rfl, rfl, fun _ _ => rfl, hg⟩
  obtain ⟨r1, r2⟩ := r
  obtain ⟨g1, g3, g4⟩ := hr
  dsimp only at g1 g3 g4
  subst g1
  exact ⟨r2, e, g3, g4⟩
theorem cr_Lend {nL t j n k : Nat} {xs : Nat → Int32} {V : cr_Hp} {b : Nat → Int32} {r56 : Int32} (h : cr_LI V b n k (400 * t + 6)) (ht : t < 40) (hj : j < 12) (hjn : 0 < n → j < n) : cr_LP t (f_L_law_b1018 nL xs (nI t) r56 (nI j) V) := by
  have h0 := h
  obtain ⟨hI, hR, g, hg, eg⟩ := h
  have hB := hI.B
  have hC := hI.C
  have hn := hB.1
  have stay := cr_LP.stay h0
  unfold f_L_law_b1018
  rw [cr_Lsame hB hC hR, cr_bd_some, if_neg (by decide)]
  by_cases h20 : nI t = (20 : Int32)
  · rw [if_pos h20, cr_H0, show V 159 (0 : Int32).toNatClampNeg = nI n by rw [cr_T0, hR.q 0 (by decide)]; exact hB.2.2.1]
    by_cases hz : nI n = 0
    · rw [if_pos hz]; exact stay
    · have hn0 : 0 < n := by
        rcases Nat.eq_zero_or_pos n with h | h
        · exact absurd (by rw [h]; rfl) hz
        · exact h
      have hjl := hjn hn0
      rw [if_neg hz, cr_g54 hj, show V 160 (((5 : Int32) * nI j) + (4 : Int32)).toNatClampNeg = b (8 + 5 * j + 4) by rw [cr_t54 hj, hR.m4 hjl]]
      by_cases l : cr_lie b j
      · rw [if_pos (cr_lie_l l)]
        obtain ⟨p, hp, ep⟩ := cr_owner hB hjl
        obtain ⟨m0, H, L, T, hI0⟩ := hI
        have hz0 : ∀ d, ∃ F : Nat → Int32, ∀ S, d < 8 → S ≤ 40 → sp_Z n k j p b d S (F S) := by
          intro d
          refine (Classical.skolem (p := fun (S : Nat) (z : Int32) => d < 8 → S ≤ 40 → sp_Z n k j p b d S z)).mp (fun S => ?_)
          by_cases hd : d < 8
          · by_cases hS : S ≤ 40
            · obtain ⟨m1, dx1, dy1, S1, h1', w1, ht1, b1, W1, zE, -⟩ := cr_try hI0 hjl hd hS hp ep
              exact ⟨_, fun _ _ => ⟨_, _, _, _, _, _, _, _, zE, rfl⟩⟩
            · exact ⟨0, fun _ h => absurd h hS⟩
          · exact ⟨0, fun h => absurd h hd⟩
        obtain ⟨Z, hZ0⟩ := (Classical.skolem (p := fun (d : Nat) (F : Nat → Int32) => ∀ S, d < 8 → S ≤ 40 → sp_Z n k j p b d S (F S))).mp hz0
        obtain ⟨N, hN⟩ : ∃ N, N = 40 := ⟨40, rfl⟩
        have hZ : ∀ d S, d < 8 → S ≤ 40 → sp_Z n k j p b d S (Z d S) := fun d S => hZ0 d S
        obtain ⟨W, e, w1, w2⟩ := cr_Lbest40 N hN (nL := nL) (xs := xs) (t := t) hB hR hjl hp ep hZ eg (by omega)
        have hIW : cr_IX W b n k := cr_IX.fr ⟨m0, H, L, T, hI0⟩ (fun c hc => w1 c (by omega))
        obtain ⟨W2, e2, hI2, f2⟩ := cr_c_best N hN hIW hjl hp ep l hZ
        rw [e, cr_bd_some, cr_u2_e, e2, cr_b2_some, cr_gd_e (show W2 999 0 = W 999 0 by rw [f2 999 (by omega)]), if_pos rfl, cr_1]
        exact ⟨W2, b, n, k, rfl, hI2, hR.fr (by rw [f2 _ (by omega), w1 _ (by omega)]) (by rw [f2 _ (by omega), w1 _ (by omega)]) (by rw [f2 _ (by omega), w1 _ (by omega)]), g + 8 * N, by omega, by rw [f2 999 (by omega)]; exact w2⟩
      · rw [if_neg (cr_won_l hB hjl l)]; exact stay
  · rw [if_neg h20]; exact stay
