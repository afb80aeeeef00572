/-! the law's loop -/
section CRH
variable {nL t j n k X Y : Nat} {xs : Nat → Int32} {V : cr_Hp} {b : Nat → Int32} {r44 r56 : Int32}
theorem cr_L208 {kind z : Int32} (h : cr_LI V b n k (400 * t)) (ht : t < 40) (hj : j < 12) (hjn : 0 < n → j < n) (hj0 : n = 0 → j = 0) (hX : X ≤ 30) (hY : Y ≤ 30) (hz : (z = 0 ∧ (0 < n → ¬ cr_lie b j)) ∨ (z = 1 ∧ 0 < n ∧ cr_lie b j)) : cr_LP t (f_L_law_b208 nL xs (nI t) r44 r56 kind (nI X) (nI Y) (nI j) z V) := by
  have q0 := cr_q0v h
  have hB := h.1.B
  have hR := h.2.1
  have hn := hB.1
  unfold f_L_law_b208
  by_cases k0 : kind = 0
  · rw [if_pos k0]
    obtain ⟨S, hS, eS⟩ := cr_Llow (r56 >>> ((8 : Int32) &&& 31)) (M := 3) (by decide) (by decide)
    obtain ⟨O, hO, eO⟩ := cr_Llow (r56 >>> ((10 : Int32) &&& 31)) (M := 3) (by decide) (by decide)
    have eS : f_L_low (r56 >>> ((8 : Int32) &&& 31)) (3 : Int32) = some (nI S) := eS
    have eO : f_L_low (r56 >>> ((10 : Int32) &&& 31)) (3 : Int32) = some (nI O) := eO
    rw [eS, cr_bd_some, eO, cr_bd_some]
    rcases cr_on_em (b := b) (n := n) (x := nI X) (y := nI Y) with ⟨i, hi, ho⟩ | ho
    · rw [cr_Lat_s hB hR hi ho, cr_bd_some, if_pos (nI_pos' (by omega))]
      exact cr_Lput h ht hj hjn hj0 hX hY hS hO (Or.inl ⟨rfl, i, hi, ho⟩)
    · rw [cr_Lat_n hB hR ho, cr_bd_some, if_neg (by decide)]
      exact cr_Lput h ht hj hjn hj0 hX hY hS hO (Or.inr ⟨rfl, ho⟩)
  · rw [if_neg k0]
    by_cases k1 : kind = (1 : Int32)
    · rw [if_pos k1]
      obtain ⟨v, hv, ev⟩ := cr_Llow (r44 >>> ((4 : Int32) &&& 31)) (M := 3) (by decide) (by decide)
      have ev : f_L_low (r44 >>> ((4 : Int32) &&& 31)) (3 : Int32) = some (nI v) := ev
      rw [ev, cr_bd_some]
      by_cases h0 : nI v = 0
      · rw [if_pos h0]
        exact cr_Ldraw (D := 15) h ht hj hjn hX hY (by omega)
      · rw [if_neg h0]
        exact cr_Ldraw (D := 4) h ht hj hjn hX hY (by omega)
    · rw [if_neg k1]
      by_cases k2 : kind = (2 : Int32)
      · rw [if_pos k2]
        unfold f_L_law_b530
        rcases hz with ⟨rfl, l⟩ | ⟨rfl, h0, l⟩
        · rw [if_pos rfl]
          exact cr_Lmove h ht hj hjn hj0 hX hY (Or.inl ⟨rfl, fun hn0 => Or.inl (l hn0)⟩)
        · rw [if_neg (by decide)]
          rcases cr_on_em (b := b) (n := n) (x := nI X) (y := nI Y) with ⟨i, hi, ho⟩ | ho
          · rw [cr_Lat_s hB hR hi ho, cr_bd_some, if_pos (nI_pos' (by omega))]
            exact cr_Lmove h ht hj hjn hj0 hX hY (Or.inl ⟨rfl, fun _ => Or.inr ⟨i, hi, ho⟩⟩)
          · rw [cr_Lat_n hB hR ho, cr_bd_some, if_neg (by decide)]
            exact cr_Lmove h ht hj hjn hj0 hX hY (Or.inr ⟨rfl, h0, l, ho⟩)
      · rw [if_neg k2]
        by_cases k3 : kind = (3 : Int32)
        · rw [if_pos k3, cr_H2, cr_H2]
          obtain ⟨W, e, hW, w2, wg⟩ := cr_Lpass1 h
          have e : f_X7_pass (cr_pt V 159 (2 : Int32).toNatClampNeg ((V 159 (2 : Int32).toNatClampNeg + (1 : Int32)) - (V 159 (2 : Int32).toNatClampNeg + (1 : Int32)) / (3 : Int32) * (3 : Int32))) = some (sp_nx b 2, W) := e
          rw [cr_lt_e, e, cr_b2_some, cr_gd_e wg, cr_H2, w2, if_pos rfl]
          exact cr_Lend (hW.le (by omega)) ht hj hjn
        · rw [if_neg k3]
          by_cases k4 : kind = (4 : Int32)
          · rw [if_pos k4]
            obtain ⟨v, hv, ev⟩ := cr_Llow (r56 >>> ((9 : Int32) &&& 31)) (M := 6) (by decide) (by decide)
            have ev : f_L_low (r56 >>> ((9 : Int32) &&& 31)) (6 : Int32) = some (nI v) := ev
            rw [ev, cr_bd_some]
            by_cases h0 : nI v ≤ 0
            · rw [if_pos h0]
              obtain ⟨W, e, hIW, hf⟩ := cr_c_clear h.1
              obtain ⟨W2, e2, x1, x2⟩ := cr_Lzero (nL := nL) (xs := xs) (t := t) (r56 := r56) (j := j) (V0 := W)
              obtain ⟨-, -, g, hg, eg⟩ := h
              rw [e, cr_b2_some, cr_gd_e (show W 999 0 = V 999 0 by rw [hf 999 (by omega)]), cr_H0, show W 159 (0 : Int32).toNatClampNeg = nI n by rw [hf 159 (by omega)]; exact q0, if_pos rfl, e2, cr_bd_some]
              exact cr_Lend (b := fun _ => 0) (n := 0) (k := 0) ⟨hIW.fr (fun c hc => x2 c (by omega)), ⟨fun i hi => x1 i hi, fun i c hi => absurd hi (by omega), fun r c hr => absurd hr (by omega)⟩, g, by omega, by rw [x2 999 (by omega), hf 999 (by omega)]; exact eg⟩ ht hj (fun h => absurd h (by omega))
            · rw [if_neg h0]
              exact cr_LP.stay (h.le (by omega))
          · rw [if_neg k4, cr_H0, q0]
            by_cases hz0 : nI n ≤ 0
            · rw [if_pos hz0]
              exact cr_Lend (h.le (by omega)) ht hj hjn
            · have hn0 : 0 < n := by
                rcases Nat.eq_zero_or_pos n with h | h
                · exact absurd (by rw [h]; decide) hz0
                · exact h
              rw [if_neg hz0]
              obtain ⟨D, hD, eD⟩ := cr_Llow (r56 >>> ((5 : Int32) &&& 31)) (M := 8) (by decide) (by decide)
              have eD : f_L_low (r56 >>> ((5 : Int32) &&& 31)) (8 : Int32) = some (nI D) := eD
              obtain ⟨v, hv, ev⟩ := cr_Llow (r56 >>> ((9 : Int32) &&& 31)) (M := 3) (by decide) (by decide)
              have ev : f_L_low (r56 >>> ((9 : Int32) &&& 31)) (3 : Int32) = some (nI v) := ev
              have hz' : (z = 0 ∧ ¬ cr_lie b j) ∨ (z = 1 ∧ cr_lie b j) := by
                rcases hz with ⟨a, l⟩ | ⟨a, -, l⟩
                · exact Or.inl ⟨a, l hn0⟩
                · exact Or.inr ⟨a, l⟩
              rw [eD, cr_bd_some, ev, cr_bd_some]
              by_cases h0 : nI v = 0
              · rw [if_pos h0]
                exact cr_Laflick (M := 40) h ht (hjn hn0) hD (by omega) hz'
              · rw [if_neg h0]
                exact cr_Laflick (M := 14) h ht (hjn hn0) hD (by omega) hz'
theorem cr_L184 {kind : Int32} (h : cr_LI V b n k (400 * t)) (ht : t < 40) (hj : j < 12) (hjn : 0 < n → j < n) (hj0 : n = 0 → j = 0) (hX : X ≤ 30) (hY : Y ≤ 30) : cr_LP t (f_L_law_b184 nL xs (nI t) r44 r56 kind (nI X) (nI Y) (nI j) V) := by
  have q0 := cr_q0v h
  have hB := h.1.B
  have hn := hB.1
  unfold f_L_law_b184
  rw [cr_H0, q0]
  by_cases hz0 : nI n ≤ 0
  · rw [if_pos hz0]
    unfold f_L_law_b207
    refine cr_L208 h ht hj hjn hj0 hX hY (Or.inl ⟨rfl, fun hn0 => absurd hz0 (nI_nle hn0 (by omega))⟩)
  · have hn0 : 0 < n := by
      rcases Nat.eq_zero_or_pos n with h | h
      · exact absurd (by rw [h]; decide) hz0
      · exact h
    rw [if_neg hz0, cr_g54 hj, show V 160 (((5 : Int32) * nI j) + (4 : Int32)).toNatClampNeg = b (8 + 5 * j + 4) by rw [cr_t54 hj, h.2.1.m4 (hjn hn0)]]
    by_cases l : cr_lie b j
    · rw [if_neg (cr_lie_n l)]
      exact cr_L208 h ht hj hjn hj0 hX hY (Or.inr ⟨rfl, hn0, l⟩)
    · rw [if_pos (cr_won_p hB (hjn hn0) l)]
      unfold f_L_law_b207
      exact cr_L208 h ht hj hjn hj0 hX hY (Or.inl ⟨rfl, fun _ => l⟩)
theorem cr_L162 {kind : Int32} (h : cr_LI V b n k (400 * t)) (ht : t < 40) (hX : X ≤ 30) (hY : Y ≤ 30) : cr_LP t (f_L_law_b162 nL xs (nI t) r44 r56 kind (nI X) (nI Y) V) := by
  have q0 := cr_q0v h
  have hn := h.1.B.1
  unfold f_L_law_b162
  rw [cr_H0, cr_H0, q0]
  by_cases hz0 : nI n = 0
  · have hn0 : n = 0 := (nI_eq (by omega) (by decide)).mp (hz0.trans cr_L0)
    rw [if_pos hz0]
    exact cr_L184 (j := 0) h ht (by omega) (fun h => h) (fun _ => rfl) hX hY
  · have hn0 : 0 < n := by
      rcases Nat.eq_zero_or_pos n with h | h
      · exact absurd (by rw [h]; rfl) hz0
      · exact h
    obtain ⟨j, hj, ej⟩ := cr_Llow (r56 >>> ((2 : Int32) &&& 31)) (M := n) hn0 (by omega)
    rw [if_neg hz0, ej, cr_bd_some]
    exact cr_L184 h ht (by omega) (fun _ => hj) (fun h => absurd h (by omega)) hX hY
theorem cr_L90 {kind : Int32} (h : cr_LI V b n k (400 * t)) (ht : t < 40) : cr_LP t (f_L_law_b90 nL xs (nI t) r44 r56 kind V) := by
  have e8 : ∀ r, (8 : Int32) + nI r = nI (8 + r) := fun r => by rw [cr_L8, nI_add]
  obtain ⟨v, hv, ev⟩ := cr_Llow (r44 >>> ((7 : Int32) &&& 31)) (M := 4) (by decide) (by decide)
  have ev : f_L_low (r44 >>> ((7 : Int32) &&& 31)) (4 : Int32) = some (nI v) := ev
  have b124 : ∀ X, X ≤ 30 → cr_LP t (f_L_law_b124 nL xs (nI t) r44 r56 kind (nI X) V) := by
    intro X hX
    unfold f_L_law_b124
    rw [ev, cr_bd_some]
    by_cases h0 : nI v = 0
    · rw [if_pos h0]
      obtain ⟨Y, hY, eY⟩ := cr_Llow (r56 >>> ((4 : Int32) &&& 31)) (M := 31) (by decide) (by decide)
      have eY : f_L_low (r56 >>> ((4 : Int32) &&& 31)) (31 : Int32) = some (nI Y) := eY
      rw [eY, cr_bd_some]
      exact cr_L162 h ht hX (by omega)
    · rw [if_neg h0]
      obtain ⟨Y, hY, eY⟩ := cr_Llow (r56 >>> ((4 : Int32) &&& 31)) (M := 9) (by decide) (by decide)
      have eY : f_L_low (r56 >>> ((4 : Int32) &&& 31)) (9 : Int32) = some (nI Y) := eY
      rw [eY, cr_bd_some, e8]
      exact cr_L162 h ht hX (by omega)
  unfold f_L_law_b90
  rw [ev, cr_bd_some]
  by_cases h0 : nI v = 0
  · rw [if_pos h0]
    obtain ⟨X, hX, eX⟩ := cr_Llow r56 (M := 31) (by decide) (by decide)
    have eX : f_L_low r56 (31 : Int32) = some (nI X) := eX
    rw [eX, cr_bd_some]
    exact b124 X (by omega)
  · rw [if_neg h0]
    obtain ⟨X, hX, eX⟩ := cr_Llow r56 (M := 9) (by decide) (by decide)
    have eX : f_L_low r56 (9 : Int32) = some (nI X) := eX
    rw [eX, cr_bd_some, e8]
    exact b124 _ (by omega)
theorem cr_Lcell {i : Nat} (hnL : nL ≤ 260) (hi : i < 1000) : ∃ v, f_L_cell nL xs (nI i) = some v := by
  unfold f_L_cell
  by_cases hc : (Int32.ofNat nL) ≤ nI i
  · rw [if_pos hc]; exact ⟨_, rfl⟩
  · rw [if_neg hc]
    have hl : i < nL := by
      rcases Nat.lt_or_ge i nL with h | h
      · exact h
      · exact absurd (nI_le h (by omega)) hc
    rw [cr_gz hl (by omega)]
    exact ⟨_, rfl⟩
theorem cr_Lloop (hnL : nL ≤ 260) (h : cr_LI V b n k (400 * t)) (ht : t < 40) : cr_LP t (f_L_law_l32 nL xs (nI t) V) := by
  have e2 : (2 : Int32) * nI t = nI (2 * t) := by rw [cr_L2, pk_mul]
  obtain ⟨v1, x1⟩ := cr_Lcell (nL := nL) (xs := xs) (i := 2 * t) hnL (by omega)
  obtain ⟨v2, x2⟩ := cr_Lcell (nL := nL) (xs := xs) (i := 2 * t + 1) hnL (by omega)
  unfold f_L_law_l32
  rw [cr_L40, if_neg (nI_ge ht (by decide)), e2, x1, cr_bd_some, cr_1, x2, cr_bd_some]
  by_cases h6 : (6 : Int32) ≤ nI t
  · rw [if_pos h6]
    by_cases h8 : (8 : Int32) ≤ nI t
    · rw [if_pos h8]
      obtain ⟨v, hv, ev⟩ := cr_Llow v1 (M := 14) (by decide) (by decide)
      have ev : f_L_low v1 (14 : Int32) = some (nI v) := ev
      rw [ev, cr_bd_some]
      exact cr_L90 h ht
    · rw [if_neg h8]
      exact cr_L90 h ht
  · rw [if_neg h6]
    exact cr_L90 h ht
end CRH
theorem cr_LI0 : cr_LI cr_V0 (fun _ => 0) 0 0 0 := by
  have z : ∀ a t, ¬ (a < 152 ∧ 3 ≤ a % 19 ∧ a % 19 < 15) → cr_V0 a t = 0 := by
    intro a t h1
    unfold cr_V0
    rw [if_neg h1]
  have num : ∀ a, cr_pg a → ∀ j, j < 12 → ∀ t, cr_V0 (a + 1 + 2 + j) t = if t = 0 then nI j else if t = 5 then -1 else 0 := by
    intro a ha j hj t
    unfold cr_V0
    rw [if_pos (by omega), show (a + 1 + 2 + j) % 19 - 3 = j by omega]
  refine ⟨⟨0, fun _ _ => 0, 0, fun _ => 0, cr_B_0, ⟨by omega, fun c hc => z _ _ (by omega), fun j hj => by rw [num 0 (by omega) j hj]; rfl, fun j hj => absurd hj (by omega), fun j hj => absurd hj (by omega), fun j _ hj => by rw [num 0 (by omega) j hj, num 0 (by omega) j hj]; exact ⟨rfl, rfl⟩, fun j hj => absurd hj (by omega), fun r _ hr => z _ _ (by omega)⟩, fun a ha j hj => by rw [num a ha j hj]; rfl, ⟨0, by omega, z _ _ (by omega), z _ _ (by omega), by omega, fun i hi => absurd hi (by omega)⟩, ⟨by omega, fun i hi => absurd hi (by omega)⟩, z _ _ (by omega), fun i hi => absurd hi (by omega)⟩, ⟨fun t ht => z _ _ (by omega), fun j c hj => absurd hj (by omega), fun r c hr => absurd hr (by omega)⟩, 0, by omega, z _ _ (by omega)⟩
theorem cr_goal_holds : cr_goal := by
  intro nL xs hnL
  obtain ⟨N, hN⟩ : ∃ N, N = 40 := ⟨40, rfl⟩
  obtain ⟨r, e, -⟩ := cr_inv (f := fun (q : Int32 × cr_Hp) => f_L_law_l32 nL xs q.1 q.2) (fun i s => s.1 = nI i ∧ ∃ b n k, cr_LI s.2 b n k (400 * i)) (fun _ => True) (n := N) (fun i hi s hs => by
      obtain ⟨s1, W⟩ := s
      obtain ⟨h1, b, n, k, h2⟩ := hs
      dsimp only at h1 h2
      subst h1
      obtain ⟨V', b', n', k', e, h3⟩ := cr_Lloop (xs := xs) hnL h2 (by omega)
      exact ⟨(nI (i + 1), V'), e, rfl, b', n', k', h3⟩) (fun s hs => by
      obtain ⟨s1, W⟩ := s
      obtain ⟨h1, -⟩ := hs
      dsimp only at h1
      subst h1
      refine ⟨W, ?_, trivial⟩
      show f_L_law_l32 nL xs (nI N) W = _
      unfold f_L_law_l32
      rw [if_pos (by rw [hN]; decide)]) N 0 cr_FU ((0 : Int32), cr_V0) (by omega) (show N < 100000 by omega) ⟨rfl, _, _, _, cr_LI0⟩
  exact ⟨r, e⟩
