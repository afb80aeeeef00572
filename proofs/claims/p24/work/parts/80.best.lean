/-! bestFlick -/
def sp_bi (Z : Nat → Nat → Int32) (S : Nat) (q : Int32 × Int32) : Nat → Int32 × Int32
  | 0 => q
  | d + 1 => if Z d S ≤ (sp_bi Z S q d).1 then sp_bi Z S q d else (Z d S, ((100 : Int32) * nI d) + nI S)
def sp_bo (Z : Nat → Nat → Int32) : Nat → Int32 × Int32
  | 0 => (0, -1006)
  | i + 1 => sp_bi Z (i + 1) (sp_bo Z i) 8
def sp_Z (n k j p : Nat) (b : Nat → Int32) (d S : Nat) (z : Int32) : Prop := ∃ m1 dx dy S' h w ht b1, sp_E n k (j, cr_sx d, cr_sy d, S, 0, 0, fun _ => false, b) (m1, dx, dy, S', h, w, ht, b1) ∧ z = (sp_tk k (nI p) (sp_ra b k) ht b1 n).2.2.1
theorem sp_Z_det {n k j p d S : Nat} {b : Nat → Int32} {z z' : Int32} (h : sp_Z n k j p b d S z) (h' : sp_Z n k j p b d S z') : z = z' := by
  obtain ⟨m1, dx, dy, S1, h1, w1, ht1, b1, e1, rfl⟩ := h
  obtain ⟨m2, dx2, dy2, S2, h2, w2, ht2, b2, e2, rfl⟩ := h'
  have det := sp_E_det e2 e1
  injection det with d1 det
  injection det with d2 det
  injection det with d3 det
  injection det with d4 det
  injection det with d5 det
  injection det with d6 det
  injection det with d7 d8
  subst d7 d8
  rfl
theorem cr_bestC (N : Nat) (hN : N = 40) {V : cr_Hp} {b : Nat → Int32} {n k m L j p : Nat} {H : Nat → Nat → Int32} {T : Nat → Int32} {Z : Nat → Nat → Int32} (hI : cr_IC V b n k m H L T) (hj : j < n) (hp : p < 3) (ho : b (8 + 5 * j + 3) = nI p) (hZ : ∀ d S, d < 8 → S ≤ 40 → sp_Z n k j p b d S (Z d S)) :
    ∃ W, cr_it (fun (q : Int32 × Int32 × Int32 × cr_Hp) => f_X7_bestFlick_l38 (nI j) q.1 q.2.1 q.2.2.1 q.2.2.2) cr_FU ((0 : Int32), (-1006 : Int32), (1 : Int32), V) = some ((sp_bo Z N).2, W) ∧ cr_IC W b n k m H L T ∧ ∀ c, 155 ≤ c → W c = V c := by
  obtain ⟨r, e, hr⟩ := cr_inv (f := fun (q : Int32 × Int32 × Int32 × cr_Hp) => f_X7_bestFlick_l38 (nI j) q.1 q.2.1 q.2.2.1 q.2.2.2) (fun i s => s.1 = (sp_bo Z i).1 ∧ s.2.1 = (sp_bo Z i).2 ∧ s.2.2.1 = nI (i + 1) ∧ cr_IC s.2.2.2 b n k m H L T ∧ ∀ c, 155 ≤ c → s.2.2.2 c = V c) (fun r => r.1 = (sp_bo Z N).2 ∧ cr_IC r.2 b n k m H L T ∧ ∀ c, 155 ≤ c → r.2 c = V c) (n := N) (fun i hi s hs => by
      obtain ⟨s1, s2, s3, W⟩ := s
      obtain ⟨h1, h2, h3, h4, h5⟩ := hs
      dsimp only at h1 h2 h3 h4 h5
      subst h1 h2 h3
      obtain ⟨D, hD⟩ : ∃ D, D = 8 := ⟨8, rfl⟩
      have eo : sp_bo Z (i + 1) = sp_bi Z (i + 1) (sp_bo Z i) D := by rw [hD, sp_bo]
      rw [eo]
      obtain ⟨r, e, hr⟩ := cr_inv (f := fun (q : Int32 × Int32 × Int32 × cr_Hp) => f_X7_bestFlick_l48 (nI j) (nI (i + 1)) q.1 q.2.1 q.2.2.1 q.2.2.2) (fun d s => s.1 = (sp_bi Z (i + 1) (sp_bo Z i) d).1 ∧ s.2.1 = (sp_bi Z (i + 1) (sp_bo Z i) d).2 ∧ s.2.2.1 = nI d ∧ cr_IC s.2.2.2 b n k m H L T ∧ ∀ c, 155 ≤ c → s.2.2.2 c = V c) (fun r => r.1 = (sp_bi Z (i + 1) (sp_bo Z i) D).1 ∧ r.2.1 = (sp_bi Z (i + 1) (sp_bo Z i) D).2 ∧ cr_IC r.2.2 b n k m H L T ∧ ∀ c, 155 ≤ c → r.2.2 c = V c) (n := D) (fun d hd s hs => by
          obtain ⟨s1, s2, s3, W⟩ := s
          obtain ⟨h1, h2, h3, h4, h5⟩ := hs
          dsimp only at h1 h2 h3 h4 h5
          subst h1 h2 h3
          obtain ⟨m1, dx1, dy1, S1, h1', w1, ht1, b1, W1, zE, -, e1, hI1, -, x1, -, -, -, -, hf1⟩ := cr_try h4 hj (show d < 8 by omega) (show i + 1 ≤ 40 by omega) hp ho
          have ez : W1 153 1 = Z d (i + 1) := by rw [x1]; exact sp_Z_det ⟨_, _, _, _, _, _, _, _, zE, rfl⟩ (hZ d (i + 1) (by omega) (by omega))
          show ∃ s', f_X7_bestFlick_l48 (nI j) (nI (i + 1)) (sp_bi Z (i + 1) (sp_bo Z i) d).1 (sp_bi Z (i + 1) (sp_bo Z i) d).2 (nI d) W = some (.inl s') ∧ _
          unfold f_X7_bestFlick_l48
          rw [cr_L8, if_neg (nI_ge (show d < 8 by omega) (by decide)), e1, cr_bd_some, ez, cr_1, cr_lt_e]
          by_cases hz : Z d (i + 1) ≤ (sp_bi Z (i + 1) (sp_bo Z i) d).1
          · have es : sp_bi Z (i + 1) (sp_bo Z i) (d + 1) = sp_bi Z (i + 1) (sp_bo Z i) d := by rw [sp_bi, if_pos hz]
            rw [if_pos hz]
            exact ⟨_, rfl, by rw [es], by rw [es], rfl, hI1, fun c hc => by rw [← h5 c hc]; exact hf1 c hc⟩
          · have es : sp_bi Z (i + 1) (sp_bo Z i) (d + 1) = (Z d (i + 1), ((100 : Int32) * nI d) + nI (i + 1)) := by rw [sp_bi, if_neg hz]
            rw [if_neg hz]
            exact ⟨_, rfl, by rw [es], by rw [es], rfl, hI1, fun c hc => by rw [← h5 c hc]; exact hf1 c hc⟩) (fun s hs => by
          obtain ⟨s1, s2, s3, W⟩ := s
          obtain ⟨h1, h2, h3, h4, h5⟩ := hs
          dsimp only at h1 h2 h3 h4 h5
          subst h1 h2 h3
          refine ⟨((sp_bi Z (i + 1) (sp_bo Z i) D).1, (sp_bi Z (i + 1) (sp_bo Z i) D).2, W), ?_, rfl, rfl, h4, h5⟩
          show f_X7_bestFlick_l48 (nI j) (nI (i + 1)) (sp_bi Z (i + 1) (sp_bo Z i) D).1 (sp_bi Z (i + 1) (sp_bo Z i) D).2 (nI D) W = _
          unfold f_X7_bestFlick_l48
          rw [if_pos (by rw [hD]; decide)]) D 0 cr_FU ((sp_bo Z i).1, (sp_bo Z i).2, 0, W) (by omega) (show D < 100000 by omega) ⟨rfl, rfl, rfl, h4, h5⟩
      obtain ⟨r1, r2, r3⟩ := r
      obtain ⟨g1, g2, g3, g4⟩ := hr
      dsimp only at g1 g2 g3 g4
      subst g1 g2
      show ∃ s', f_X7_bestFlick_l38 (nI j) (sp_bo Z i).1 (sp_bo Z i).2 (nI (i + 1)) W = some (.inl s') ∧ _
      unfold f_X7_bestFlick_l38
      rw [cr_L40, if_neg (nI_nlt (by omega) (by decide)), e, cr_bd_some, cr_1]
      exact ⟨_, rfl, rfl, rfl, rfl, g3, g4⟩) (fun s hs => by
      obtain ⟨s1, s2, s3, W⟩ := s
      obtain ⟨h1, h2, h3, h4, h5⟩ := hs
      dsimp only at h1 h2 h3 h4 h5
      subst h1 h2 h3
      refine ⟨((sp_bo Z N).2, W), ?_, rfl, h4, h5⟩
      show f_X7_bestFlick_l38 (nI j) (sp_bo Z N).1 (sp_bo Z N).2 (nI (N + 1)) W = _
      unfold f_X7_bestFlick_l38
      rw [if_pos (by rw [hN]; decide)]) N 0 cr_FU ((0 : Int32), (-1006 : Int32), (1 : Int32), V) (by omega) (show N < 100000 by omega) ⟨rfl, rfl, rfl, hI, fun _ _ => rfl⟩
  obtain ⟨r1, r2⟩ := r
  obtain ⟨g1, g3, g4⟩ := hr
  dsimp only at g1 g3 g4
  subst g1
  exact ⟨r2, e, g3, g4⟩
