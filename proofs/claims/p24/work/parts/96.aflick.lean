/-! the law's flicks: foretold and made -/
section CRG
variable {nL t j n k G D s : Nat} {xs : Nat → Int32} {V : cr_Hp} {b : Nat → Int32} {r44 r56 : Int32}
theorem cr_LI.fr {W : cr_Hp} (h : cr_LI V b n k G) (h1 : ∀ c, c < 162 → W c = V c) {g : Nat} (hg : g ≤ G) (h2 : W 999 0 = nI g) : cr_LI W b n k G := ⟨h.1.fr (fun c hc => h1 c (by omega)), h.2.1.fr (h1 _ (by omega)) (h1 _ (by omega)) (h1 _ (by omega)), g, hg, h2⟩
theorem cr_Lfore {z : Int32} (h : cr_LI V b n k (400 * t)) (ht : t < 40) (hj : j < n) (hD : D < 8) (hs : s < 40) (hz : (z = 0 ∧ ¬ cr_lie b j) ∨ (z = 1 ∧ cr_lie b j)) : ∃ W, cr_it (fun (q : Int32 × cr_Hp) => f_L_law_l804 nL xs (nI t) r56 (nI j) z (nI D) (nI s) q.1 q.2) cr_FU ((0 : Int32), V) = some W ∧ cr_LI W b n k (400 * t + 5) := by
  have e1 : (1 : Int32) + nI s = nI (s + 1) := by rw [cr_L1, nI_add, Nat.add_comm]
  have hB := h.1.B
  have hn := hB.1
  obtain ⟨p, hp, ep⟩ := cr_owner hB hj
  refine cr_invH (F := fun x W => f_L_law_l804 nL xs (nI t) r56 (nI j) z (nI D) (nI s) x W) (V := V) (fun i W => cr_LI W b n k (400 * t + i)) (fun W => cr_LI W b n k (400 * t + 5)) 5 h (fun i hi W hW => ?_) (fun W hW => ⟨W, ?_, hW⟩) (by decide)
  · obtain ⟨hI, hR, g, hg, eg⟩ := hW
    unfold f_L_law_l804
    rw [cr_L5, if_neg (nI_ge hi (by decide)), e1]
    rcases hz with ⟨rfl, l⟩ | ⟨rfl, l⟩
    · rw [cr_c_iff0 hI hj hD (show 1 ≤ s + 1 by omega) (show s + 1 ≤ 40 by omega) hi l, cr_b2_some, cr_gd_e (rfl : W 999 0 = W 999 0), if_pos rfl]
      unfold f_L_law_b848
      rw [if_pos rfl, cr_1]
      exact ⟨W, rfl, hI, hR, g, by omega, eg⟩
    · obtain ⟨m1, dx1, dy1, S1, h1', w1, ht1, b1, W1, zE1, x1, hI1, f1⟩ := cr_c_iff hI hj hD (show 1 ≤ s + 1 by omega) (show s + 1 ≤ 40 by omega) hp ep hi l
      have hR1 : cr_R 159 160 161 W1 b n k := hR.fr (f1 _ (by omega)) (f1 _ (by omega)) (f1 _ (by omega))
      obtain ⟨m2, dx2, dy2, S2, h2', w2, ht2, b2, W2, zE2, x2, f2⟩ := cr_Lthen hB hR1 hj hD (show 1 ≤ s + 1 by omega) (show s + 1 ≤ 40 by omega) hp ep hi
      obtain ⟨d1, d2, d3, d4, d5⟩ := sp_rc_det (c := 0) (P := 0) (ra := fun _ => 0) zE2 zE1
      subst d1 d2 d3 d4 d5
      have g1 : W2 999 0 = W1 999 0 := by rw [f2 999 (by omega)]
      have gc : (W1 999 0).toNatClampNeg = g := by rw [f1 999 (by omega), eg, nI_clamp (by omega)]
      rw [x1, cr_b2_some, cr_gd_e (show W1 999 0 = W 999 0 by rw [f1 999 (by omega)]), if_neg (by decide), x2, cr_b2_some, cr_gd_e ⟨g1, by rw [gc]; omega⟩, cr_lt_e, gc]
      unfold f_L_law_b848
      rw [if_pos rfl, cr_1]
      refine ⟨_, rfl, hI1.fr (fun c hc => by rw [cr_pt_ne (by omega), f2 c (by omega)]), hR1.fr (by rw [cr_pt_ne (by omega), f2 _ (by omega)]) (by rw [cr_pt_ne (by omega), f2 _ (by omega)]) (by rw [cr_pt_ne (by omega), f2 _ (by omega)]), g + 1, by omega, by rw [cr_pv, if_pos ⟨rfl, rfl⟩]⟩
  · unfold f_L_law_l804
    rw [cr_L5, if_pos (nI_le (Nat.le_refl 5) (by decide))]
theorem sp_nx_o {t : Nat} (h : t ≠ 2) : sp_nx b t = b t := by
  unfold sp_nx
  rw [cr_uv, if_neg h]
theorem sp_nx_2 {q : Nat} (h : b 2 = nI q) (hq : q < 3) : sp_nx b 2 = nI ((q + 1) % 3) := by
  unfold sp_nx
  rw [cr_uv, if_pos rfl, h]
  exact cr_nx_v hq
theorem cr_Lturns {p : Nat} (hj : j < n) (hp : p < 3) : ∀ (fuel d q : Nat) (V : cr_Hp) (b : Nat → Int32), cr_LI V b n k G → b (8 + 5 * j + 3) = nI p → b 2 = nI q → q < 3 → (p + 3 - q) % 3 = d → d < fuel → ∃ W b', cr_it (fun (z : cr_Hp) => f_L_law_l907 nL xs (nI t) r56 (nI j) (nI D) (nI s) z) fuel V = some W ∧ cr_LI W b' n k G ∧ b' 2 = nI p ∧ ∀ t, 8 ≤ t → b' t = b t
  | 0, d, q, V, b, _, _, _, _, _, hf => by omega
  | fuel + 1, d, q, V, b, h, ep, eq, hq, hd, hf => by
    have hB := h.1.B
    have hn := hB.1
    have h12 : j < 12 := by omega
    have q2 : V 159 (2 : Int32).toNatClampNeg = nI q := by rw [cr_T2, h.2.1.q 2 (by decide)]; exact eq
    have o3 : V 160 (((5 : Int32) * nI j) + (3 : Int32)).toNatClampNeg = nI p := by rw [cr_t53 h12, h.2.1.m3 hj]; exact ep
    by_cases he : q = p
    · refine ⟨V, b, ?_, h, by rw [← he]; exact eq, fun _ _ => rfl⟩
      refine cr_it_r ?_
      unfold f_L_law_l907
      rw [cr_H2, cr_g53 h12, q2, o3, if_pos (by rw [he])]
    · have hne : ¬ nI q = nI p := fun e => he ((nI_eq (by omega) (by omega)).mp e)
      obtain ⟨W, e, hW, w2, wg⟩ := cr_Lpass1 h
      have e : f_X7_pass (cr_pt V 159 (2 : Int32).toNatClampNeg ((V 159 (2 : Int32).toNatClampNeg + (1 : Int32)) - (V 159 (2 : Int32).toNatClampNeg + (1 : Int32)) / (3 : Int32) * (3 : Int32))) = some (sp_nx b 2, W) := e
      obtain ⟨W', b', i1, i2, i3, i4⟩ := cr_Lturns hj hp fuel (d - 1) ((q + 1) % 3) W (sp_nx b) hW (by rw [sp_nx_o (by omega)]; exact ep) (sp_nx_2 eq hq) (by omega) (by omega) (by omega)
      refine ⟨W', b', ?_, i2, i3, fun t ht => by rw [i4 t ht, sp_nx_o (by omega)]⟩
      refine (cr_it_l ?_).trans i1
      unfold f_L_law_l907
      rw [cr_H2, cr_g53 h12, if_neg (show ¬ V 159 (2 : Int32).toNatClampNeg = V 160 (((5 : Int32) * nI j) + (3 : Int32)).toNatClampNeg by rw [q2, o3]; exact hne), cr_H2, cr_H2, cr_lt_e, e, cr_b2_some, cr_gd_e wg, cr_H2, w2, if_pos rfl]
theorem cr_Lmay0 (h : cr_LI V b n k (400 * t + 5)) (ht : t < 40) (hj : j < n) (hD : D < 8) (hs : s < 40) (hh : ¬ cr_lie b j ∨ ¬ b (8 + 5 * j + 3) = b 2) : cr_LP t (f_L_law_b946 nL xs (nI t) r56 (nI j) (nI D) (nI s) (0 : Int32) V) := by
  have e1 : (1 : Int32) + nI s = nI (s + 1) := by rw [cr_L1, nI_add, Nat.add_comm]
  have hn := h.1.B.1
  unfold f_L_law_b946
  rw [if_pos rfl]
  unfold f_L_law_b1001
  rw [e1, cr_c_flick0 h.1 hj hD (show 1 ≤ s + 1 by omega) (show s + 1 ≤ 40 by omega) hh, cr_b2_some, cr_gd_e (rfl : V 999 0 = V 999 0), if_pos rfl]
  exact cr_Lend (h.le (by omega)) ht (by omega) (fun _ => hj)
theorem cr_Lmay1 (h : cr_LI V b n k (400 * t + 5)) (ht : t < 40) (hj : j < n) (hD : D < 8) (hs : s < 40) (l : cr_lie b j) (ho : b (8 + 5 * j + 3) = b 2) : cr_LP t (f_L_law_b946 nL xs (nI t) r56 (nI j) (nI D) (nI s) (1 : Int32) V) := by
  have e1 : (1 : Int32) + nI s = nI (s + 1) := by rw [cr_L1, nI_add, Nat.add_comm]
  obtain ⟨hI, hR, g, hg, eg⟩ := h
  have hB := hI.B
  have hn := hB.1
  obtain ⟨p, hp, ep⟩ := cr_owner hB hj
  obtain ⟨m, dx, dy, S', hh, w, ht1, b1, W, zE, e, R1, o0, -, -, -, -, hBa, f1⟩ := cr_Lflick (B := 159) hB hR hj hD (show 1 ≤ s + 1 by omega) (show s + 1 ≤ 40 by omega) hp
  have e : f_L_flick 163 159 160 161 162 (nI p) (nI j) (nI D) (nI (s + 1)) V = some W := e
  have R1 : cr_R 159 160 161 W (sp_af k n (nI p) b hh w ht1 b1) n k := R1
  have o0 : W 162 0 = (sp_tk k (nI p) (sp_ra b k) ht1 b1 n).2.1 := o0
  have q2 : V 159 (2 : Int32).toNatClampNeg = nI p := by rw [cr_T2, hR.q 2 (by decide), ← ho]; exact ep
  have gc : (V 999 0).toNatClampNeg = g := by rw [eg, nI_clamp (by omega)]
  obtain ⟨W1, eW1⟩ : ∃ W1, W1 = cr_pt W 999 0 (nI (g + 1)) := ⟨_, rfl⟩
  have fW : ∀ c, c ≠ 999 → W1 c = W c := fun c hc => by rw [eW1, cr_pt_ne hc]
  have g1 : W1 999 0 = nI (g + 1) := by rw [eW1, cr_pv, if_pos ⟨rfl, rfl⟩]
  have R2 : cr_R 159 160 161 W1 (sp_af k n (nI p) b hh w ht1 b1) n k := R1.fr (fW _ (by omega)) (fW _ (by omega)) (fW _ (by omega))
  have d0 : W1 162 (0 : Int32).toNatClampNeg = (sp_tk k (nI p) (sp_ra b k) ht1 b1 n).2.1 := by rw [cr_T0, fW _ (by omega)]; exact o0
  obtain ⟨T1, eT1⟩ : ∃ T1, T1 = (sp_tk k (nI p) (sp_ra b k) ht1 b1 n).2.1 := ⟨_, rfl⟩
  have tail : ∀ V2 : cr_Hp, (∀ c, c < 159 → V2 c = W1 c) → V2 999 = W1 999 → cr_R 159 160 161 V2 (if T1 = 0 then sp_nx (sp_af k n (nI p) b hh w ht1 b1) else sp_af k n (nI p) b hh w ht1 b1) n k → cr_LP t (f_L_law_b1001 nL xs (nI t) r56 (nI j) (nI D) (nI s) T1 V2) := by
    intro V2 h1 h2 h3
    have hI2 : cr_IX V2 b n k := hI.fr (fun c hc => by rw [h1 c hc, fW c (by omega), f1 c (by omega)])
    obtain ⟨m2, dx2, dy2, S2, hh2, w2, ht2, b2, W3, zE2, e3, hI3, f3⟩ := cr_c_flick hI2 hj hD (show 1 ≤ s + 1 by omega) (show s + 1 ≤ 40 by omega) hp ep l ho
    obtain ⟨d1, d2, d3, d4, d5⟩ := sp_rc_det (c := 0) (P := 0) (ra := fun _ => 0) zE2 zE
    subst d1 d2 d3 d4 d5
    rw [← eT1] at e3 hI3
    unfold f_L_law_b1001
    rw [e1, e3, cr_b2_some, cr_gd_e (show W3 999 0 = V2 999 0 by rw [f3 999 (by omega)]), if_pos rfl]
    exact cr_Lend ⟨hI3, h3.fr (f3 _ (by omega)) (f3 _ (by omega)) (f3 _ (by omega)), g + 1, by omega, by rw [f3 999 (by omega), h2]; exact g1⟩ ht (by omega) (fun _ => hj)
  unfold f_L_law_b946
  rw [if_neg (by decide), cr_H2, q2, e1, e, cr_bd_some, cr_gd_e (show W 999 0 = V 999 0 ∧ (V 999 0).toNatClampNeg < 60000 from ⟨by rw [f1 999 (by omega)], by rw [gc]; omega⟩), gc, ← eW1, cr_lt_e, cr_K0, d0, ← eT1]
  unfold f_L_law_b1000
  by_cases h0 : T1 = 0
  · rw [if_pos h0] at tail
    rw [if_pos h0, cr_H2, cr_H2, cr_lt_e, d0, ← eT1]
    exact tail _ (fun c hc => cr_pt_ne (by omega)) (cr_pt_ne (by omega)) (cr_R_nx R2 (by rw [cr_T2, R2.q 2 (by decide)]))
  · rw [if_neg h0] at tail
    rw [if_neg h0, cr_H2, cr_H2, cr_lt_c (cr_pt_id rfl), d0, ← eT1]
    exact tail W1 (fun _ _ => rfl) rfl R2
theorem cr_Laflick {z : Int32} {M : Nat} (h : cr_LI V b n k (400 * t)) (ht : t < 40) (hj : j < n) (hD : D < 8) (hM : 1 ≤ M ∧ M ≤ 40) (hz : (z = 0 ∧ ¬ cr_lie b j) ∨ (z = 1 ∧ cr_lie b j)) : cr_LP t (f_L_law_b795 nL xs (nI t) r44 r56 (nI j) z (nI D) (nI M) V) := by
  have hB := h.1.B
  have hn := hB.1
  have h12 : j < 12 := by omega
  obtain ⟨s, hs, es⟩ := cr_Llow (r44 >>> ((5 : Int32) &&& 31)) (M := M) (by omega) (by omega)
  obtain ⟨W, eW, hW⟩ := cr_Lfore (nL := nL) (xs := xs) (r56 := r56) (D := D) (s := s) h ht hj hD (by omega) hz
  obtain ⟨p, hp, ep⟩ := cr_owner hB hj
  obtain ⟨q, hq, eq⟩ := hB.2.2.2.2.1
  have q2 : W 159 (2 : Int32).toNatClampNeg = b 2 := by rw [cr_T2, hW.2.1.q 2 (by decide)]
  have o3 : W 160 (((5 : Int32) * nI j) + (3 : Int32)).toNatClampNeg = b (8 + 5 * j + 3) := by rw [cr_t53 h12, hW.2.1.m3 hj]
  unfold f_L_law_b795
  rw [es, cr_bd_some, eW, cr_bd_some]
  rcases hz with ⟨rfl, l⟩ | ⟨rfl, l⟩
  · rw [if_pos rfl]
    unfold f_L_law_b882 f_L_law_b883
    rw [if_pos rfl, if_pos rfl]
    exact cr_Lmay0 hW ht hj hD (by omega) (Or.inl l)
  · rw [if_neg (by decide), cr_g53 h12, cr_H2, q2, o3]
    by_cases ho : b (8 + 5 * j + 3) = b 2
    · rw [if_pos ho]
      unfold f_L_law_b883
      rw [if_neg (by decide)]
      exact cr_Lmay1 hW ht hj hD (by omega) l ho
    · rw [if_neg ho]
      unfold f_L_law_b882 f_L_law_b883
      obtain ⟨v, hv, ev⟩ := cr_Llow (r56 >>> ((11 : Int32) &&& 31)) (M := 3) (by decide) (by decide)
      have ev : f_L_low (r56 >>> ((11 : Int32) &&& 31)) (3 : Int32) = some (nI v) := ev
      rw [if_pos rfl, if_neg (by decide), ev, cr_bd_some]
      by_cases h0 : nI v ≤ 0
      · rw [if_pos h0]
        exact cr_Lmay0 hW ht hj hD (by omega) (Or.inr ho)
      · rw [if_neg h0]
        obtain ⟨W2, b', e2, hW2, b2, b8⟩ := cr_Lturns (nL := nL) (xs := xs) (t := t) (r56 := r56) (D := D) (s := s) hj hp cr_FU ((p + 3 - q) % 3) q W b hW ep eq hq rfl (show (p + 3 - q) % 3 < 100000 by omega)
        rw [e2, cr_bd_some]
        exact cr_Lmay1 hW2 ht hj hD (by omega) (by rw [cr_lie, b8 _ (by omega)]; exact l) (by rw [b8 _ (by omega), b2]; exact ep)
end CRG
