/-! ifFlicked and bestFlick -/
theorem cr_IC_t {V W : cr_Hp} {b : Nat → Int32} {n k m L : Nat} {H : Nat → Nat → Int32} {T : Nat → Int32} (h : cr_IC V b n k m H L T) (hf : ∀ c, c < 19 ∨ 38 ≤ c → c ≠ 153 → c < 159 → W c = V c) (hN : ∀ j, j < 12 → W (19 + 1 + 2 + j) 0 = nI j) : cr_IC W b n k m H L T :=
  cr_IC_b h h.1 (cr_C_fr h.1.1 h.1.2.1 h.2.1 (fun c c1 c2 => hf c (by omega) (by omega) (by omega))) (fun c c1 c2 c3 => hf c (by omega) (by omega) c2) hN
theorem cr_try {V : cr_Hp} {b : Nat → Int32} {n k m L j d S p : Nat} {H : Nat → Nat → Int32} {T : Nat → Int32} (hI : cr_IC V b n k m H L T) (hj : j < n) (hd : d < 8) (hS : S ≤ 40) (hp : p < 3) (ho : b (8 + 5 * j + 3) = nI p) :
    ∃ m1 dx dy S' h w ht b1 W, sp_E n k (j, cr_sx d, cr_sy d, S, 0, 0, fun _ => false, b) (m1, dx, dy, S', h, w, ht, b1) ∧ sp_K n k m1 dx dy S' h b1 ∧ f_X7_tryFlick (nI j) (nI d) (nI S) V = some W ∧ cr_IC W b n k m H L T ∧ W 153 0 = (sp_tk k (nI p) (sp_ra b k) ht b1 n).2.1 ∧ W 153 1 = (sp_tk k (nI p) (sp_ra b k) ht b1 n).2.2.1 ∧ W 153 2 = nI h ∧ W 153 3 = nI m1 ∧ W 153 4 = b1 (8 + 5 * m1) ∧ W 153 5 = b1 (8 + 5 * m1 + 1) ∧ ∀ c, 155 ≤ c → W c = V c := by
  have hB := hI.1
  obtain ⟨V1, e1, hC1, f1⟩ := cr_copy (a := 19) hB.1 hB.2.1 hI.2.1 (by omega) (by omega) (hI.2.2.1 19 (by omega))
  obtain ⟨m1, dx, dy, S', h, w, ht, b1, W, zE, zK, e2, hC2, x0, x1, x2, x3, x4, x5, f2⟩ := cr_play hB hC1 hj hd hS hp ho
  refine ⟨m1, dx, dy, S', h, w, ht, b1, W, zE, zK, ?_, ?_, x0, x1, x2, x3, x4, x5, fun c hc => by rw [f2 c (by omega) (by omega), f1 c (by omega)]⟩
  · unfold f_X7_tryFlick
    rw [e1, cr_bd_some, e2, cr_bd_some]
  · exact cr_IC_t hI (fun c c1 c2 _ => by rw [f2 c c1 c2, f1 c c1]) hC2.2.2.1
