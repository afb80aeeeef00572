def cr_V0 : cr_Hp := fun a k => if a < 152 ∧ 3 ≤ a % 19 ∧ a % 19 < 15 then (if k = 0 then nI (a % 19 - 3) else if k = 5 then -1 else 0) else 0
theorem cr_arrV {cA : ClassId} {n : Nat} {f g : Nat → Value} (h : ∀ j, j < n → f j = g j) : arrV cA n f = arrV cA n g := by
  unfold arrV
  congr 1
  apply congrArg
  funext j
  exact h j.val j.isLt
theorem cr_atq {D : va_G} {cl : List vw_C} {q : Nat} {cA : ClassId} {n : Nat} {f g : Nat → Option Nat} {H : Heap} (h : ∀ j, j < n → f j = g j) (hv : va_at D cl (q, .inl (cA, n, .inr (.inr (.inr (.inr f))))) H) : va_at D cl (q, .inl (cA, n, .inr (.inr (.inr (.inr g))))) H := by
  have hv2 : H[q]? = some (vp_cell cA (n, .inr (.inr (.inr (.inr f))))) := hv
  show H[q]? = some (vp_cell cA (n, .inr (.inr (.inr (.inr g)))))
  rw [hv2, vp_cell_q, vp_cell_q]
  exact congrArg some (cr_arrV (fun j hj => by rw [h j hj]))
def cr_sg (k : Nat) : Nat := if k = 1 then 2 else if k = 2 then 1 else k
def cr_pe (w : cr_Wd) (b : Nat → Nat) (k : Nat) : va_E := if k = 0 then cr_eP (b 1) (b 2) else if k = 1 then .inl (w.2.1 2, 12, .inr (.inr (.inr (.inr (cr_fm 12 (fun j => b (3 + j))))))) else if k = 2 then .inl (w.2.1 3, 4, .inr (.inr (.inr (.inr (cr_fm 4 (fun j => b (15 + j))))))) else if k < 15 then cr_eM (nI (k - 3)) else cr_eG
set_option maxRecDepth 100000 in
set_option maxHeartbeats 4000000 in
theorem cr_pg_at (w : cr_Wd) (b : Nat → Nat) {k : Nat} (h : k < 19) : (cr_pgw w b)[cr_sg k]? = some (b k, cr_pe w b k) := by
  rcases (show k = 0 ∨ k = 1 ∨ k = 2 ∨ k = 3 ∨ k = 4 ∨ k = 5 ∨ k = 6 ∨ k = 7 ∨ k = 8 ∨ k = 9 ∨ k = 10 ∨ k = 11 ∨ k = 12 ∨ k = 13 ∨ k = 14 ∨ k = 15 ∨ k = 16 ∨ k = 17 ∨ k = 18 by omega) with rfl | rfl | rfl | rfl | rfl | rfl | rfl | rfl | rfl | rfl | rfl | rfl | rfl | rfl | rfl | rfl | rfl | rfl | rfl <;> rfl
theorem cr_pg_len (w : cr_Wd) (b : Nat → Nat) : (cr_pgw w b).length = 19 := rfl
theorem cr_sg_lt {k : Nat} (h : k < 19) : cr_sg k < 19 := by unfold cr_sg; split <;> (try split) <;> omega
theorem cr_fam_at {B : Nat → va_W} : ∀ {n j k : Nat}, (∀ i, i < n → (B i).length = 19) → j < n → k < 19 → (cr_fam n B)[19 * j + k]? = (B j)[k]? := by
  intro n
  induction n with
  | zero => intro j k _ h; omega
  | succ n ih =>
    intro j k hl hj hk
    have hs : cr_fam (n + 1) B = cr_fam n B ++ B n := by simp [cr_fam, List.range_succ]
    have hlen : ∀ m, m ≤ n → (cr_fam m B).length = 19 * m := by
      intro m
      induction m with
      | zero => intro _; rfl
      | succ m ihm =>
        intro hm
        have h2 : cr_fam (m + 1) B = cr_fam m B ++ B m := by simp [cr_fam, List.range_succ]
        rw [h2, List.length_append, ihm (by omega), hl m (by omega)]
        omega
    rw [hs]
    by_cases h : j < n
    · rw [List.getElem?_append_left (by rw [hlen n (Nat.le_refl _)]; omega)]
      exact ih (fun i hi => hl i (by omega)) h hk
    · have hjn : j = n := by omega
      subst hjn
      rw [List.getElem?_append_right (by rw [hlen j (Nat.le_refl _)]; omega), hlen j (Nat.le_refl _)]
      congr 1
      omega
theorem cr_fam_len {B : Nat → va_W} {n : Nat} (hl : ∀ i, i < n → (B i).length = 19) : (cr_fam n B).length = 19 * n := by
  induction n with
  | zero => rfl
  | succ n ih =>
    have hs : cr_fam (n + 1) B = cr_fam n B ++ B n := by simp [cr_fam, List.range_succ]
    rw [hs, List.length_append, ih (fun i hi => hl i (by omega)), hl n (by omega)]
    omega
def cr_dw (w : cr_Wd) (b : Nat → Nat) : va_W := [(b 0, .inl (w.2.1 0, 8, .inl (fun _ => 0))), (b 1, .inl (w.2.1 0, 60, .inl (fun _ => 0))), (b 2, .inl (w.2.1 0, 12, .inl (fun _ => 0))), (b 3, .inl (w.2.1 0, 5, .inl (fun _ => 0)))]
abbrev cr_U : Type := (Nat → Nat) × (Nat → Nat) × (Nat → Nat → Nat) × (Nat → Nat) × (Nat → Nat)
def cr_pf (u : cr_U) (k : Nat) : Nat → Nat := if k = 0 then u.1 else if k = 1 then u.2.1 else u.2.2.1 (k - 2)
def cr_ad (q0 : Nat) (u : cr_U) (b : Nat → Nat) (a : Nat) : Nat := if a < 152 then cr_pf u (a / 19) (a % 19) else if a = 152 then q0 else if a = 153 then u.2.2.2.2 0 else if a = 154 then u.2.2.2.2 1 else if a = 155 then u.2.2.1 6 0 else if a = 156 then u.2.2.2.2 2 else if a = 157 then u.2.2.2.1 0 else if a = 158 then u.2.2.2.1 1 else b (a - 159)
def cr_ps (a : Nat) : Nat := if a < 38 then 1 + 19 * (a / 19) + cr_sg (a % 19) else if a < 152 then 42 + 19 * ((a - 38) / 19) + cr_sg (a % 19) else if a = 152 then 0 else if a < 156 then a - 114 else a
theorem cr_hw_len (w : cr_Wd) (q : Nat) (b : Nat → Nat → Nat) : (cr_hw w q b).length = 116 := by
  unfold cr_hw
  simp [cr_fam_len (n := 6) (B := fun j => cr_pgw w (b j)) (fun i _ => cr_pg_len w _)]
theorem cr_cw_len (w : cr_Wd) (q : Nat) (u : cr_U) : (cr_cw w q u).length = 159 := by
  unfold cr_cw
  simp [cr_hw_len, cr_pg_len]
set_option maxRecDepth 100000 in
set_option maxHeartbeats 4000000 in
theorem cr_L_at (w : cr_Wd) (q0 : Nat) (u : cr_U) (b : Nat → Nat) {a : Nat} (h : a < 152) : (cr_cw w q0 u ++ cr_dw w b)[cr_ps a]? = some (cr_pf u (a / 19) (a % 19), cr_pe w (cr_pf u (a / 19)) (a % 19)) := by
  have hk : a % 19 < 19 := Nat.mod_lt _ (by decide)
  have hs := cr_sg_lt hk
  by_cases h1 : a < 38
  · have hp : cr_ps a = (19 * (a / 19) + cr_sg (a % 19)) + 1 := by unfold cr_ps; rw [if_pos h1]; omega
    rw [hp, List.getElem?_append_left (by rw [cr_cw_len]; omega)]
    unfold cr_cw
    rw [List.getElem?_cons_succ, List.getElem?_append_left (by simp [cr_hw_len, cr_pg_len]; omega), List.getElem?_append_left (by simp [cr_pg_len]; omega), List.getElem?_append_left (by simp [cr_pg_len]; omega)]
    by_cases h2 : a < 19
    · have e : a / 19 = 0 := by omega
      rw [e, List.getElem?_append_left (by rw [cr_pg_len]; omega)]
      rw [show 19 * 0 + cr_sg (a % 19) = cr_sg (a % 19) by omega]
      exact cr_pg_at w u.1 hk
    · have e : a / 19 = 1 := by omega
      rw [e, List.getElem?_append_right (by rw [cr_pg_len]; omega), cr_pg_len]
      rw [show 19 * 1 + cr_sg (a % 19) - 19 = cr_sg (a % 19) by omega]
      exact cr_pg_at w u.2.1 hk
  · have hp : cr_ps a = (41 + 19 * ((a - 38) / 19) + cr_sg (a % 19)) + 1 := by unfold cr_ps; rw [if_neg h1, if_pos h]; omega
    rw [hp, List.getElem?_append_left (by rw [cr_cw_len]; omega)]
    unfold cr_cw
    rw [List.getElem?_cons_succ, List.getElem?_append_left (by simp [cr_hw_len, cr_pg_len]; omega), List.getElem?_append_right (by simp [cr_pg_len]; omega)]
    have e39 : ((cr_pgw w u.1 ++ cr_pgw w u.2.1) ++ [(u.2.2.2.2 0, cr_eR)]).length = 39 := by simp [cr_pg_len]
    rw [e39, show 41 + 19 * ((a - 38) / 19) + cr_sg (a % 19) - 39 = (19 * ((a - 38) / 19) + cr_sg (a % 19)) + 1 + 1 by omega]
    unfold cr_hw
    rw [List.getElem?_cons_succ, List.getElem?_cons_succ, List.nil_append, cr_fam_at (fun i _ => cr_pg_len w _) (by omega) hs, cr_pg_at w _ hk]
    have e1 : a / 19 - 2 = (a - 38) / 19 := by omega
    have e2 : cr_pf u (a / 19) = u.2.2.1 ((a - 38) / 19) := by unfold cr_pf; rw [if_neg (by omega), if_neg (by omega), e1]
    rw [e2]
set_option maxRecDepth 100000 in
set_option maxHeartbeats 4000000 in
theorem cr_L_c (w : cr_Wd) (q0 : Nat) (u : cr_U) (b : Nat → Nat) : (cr_cw w q0 u ++ cr_dw w b)[0]? = some (q0, .inr (7, [.ref (u.1 0), .ref (u.2.1 0), .ref (u.2.2.2.2 0), .ref (u.2.2.2.2 1), .ref (u.2.2.2.2 2)])) ∧ (cr_cw w q0 u ++ cr_dw w b)[39]? = some (u.2.2.2.2 0, cr_eR) ∧ (cr_cw w q0 u ++ cr_dw w b)[40]? = some (u.2.2.2.2 1, cr_eH (u.2.2.1 6 0)) ∧ (cr_cw w q0 u ++ cr_dw w b)[41]? = some (u.2.2.1 6 0, .inl (w.2.1 4, 6, .inr (.inr (.inr (.inr (cr_fm 6 (fun j => u.2.2.1 j 0))))))) ∧ (cr_cw w q0 u ++ cr_dw w b)[156]? = some (u.2.2.2.2 2, .inr (1, [.ref (u.2.2.2.1 0), .int 0, .int 0, .int 0, .int 0, .int 0, .int 0, .int 0, .int 0])) ∧ (cr_cw w q0 u ++ cr_dw w b)[157]? = some (u.2.2.2.1 0, .inr (6, [.ref (u.2.2.2.1 1), .int 0])) ∧ (cr_cw w q0 u ++ cr_dw w b)[158]? = some (u.2.2.2.1 1, .inl (w.2.1 1, 80, .inl (fun _ => 0))) := by
  have e39 : ((cr_pgw w u.1 ++ cr_pgw w u.2.1) ++ [(u.2.2.2.2 0, cr_eR)]).length = 39 := by simp [cr_pg_len]
  have e155 : (((cr_pgw w u.1 ++ cr_pgw w u.2.1) ++ [(u.2.2.2.2 0, cr_eR)]) ++ cr_hw w (u.2.2.2.2 1) u.2.2.1).length = 155 := by rw [List.length_append, e39, cr_hw_len]
  refine ⟨rfl, ?_, ?_, ?_, ?_, ?_, ?_⟩
  · rw [List.getElem?_append_left (by rw [cr_cw_len]; omega)]
    unfold cr_cw
    rw [List.getElem?_cons_succ, List.getElem?_append_left (by rw [e155]; omega), List.getElem?_append_left (by rw [e39]; omega), List.getElem?_append_right (by simp [cr_pg_len])]
    simp [cr_pg_len]
  · rw [List.getElem?_append_left (by rw [cr_cw_len]; omega)]
    unfold cr_cw
    rw [List.getElem?_cons_succ, List.getElem?_append_left (by rw [e155]; omega), List.getElem?_append_right (by rw [e39]; omega), e39]
    rfl
  · rw [List.getElem?_append_left (by rw [cr_cw_len]; omega)]
    unfold cr_cw
    rw [List.getElem?_cons_succ, List.getElem?_append_left (by rw [e155]; omega), List.getElem?_append_right (by rw [e39]; omega), e39]
    rfl
  all_goals
    rw [List.getElem?_append_left (by rw [cr_cw_len]; omega)]
    unfold cr_cw
    rw [List.getElem?_cons_succ, List.getElem?_append_right (by rw [e155]; omega), e155]
    rfl
set_option maxRecDepth 100000 in
set_option maxHeartbeats 4000000 in
theorem cr_L_d (w : cr_Wd) (q0 : Nat) (u : cr_U) (b : Nat → Nat) : (cr_cw w q0 u ++ cr_dw w b)[159]? = some (b 0, .inl (w.2.1 0, 8, .inl (fun _ => 0))) ∧ (cr_cw w q0 u ++ cr_dw w b)[160]? = some (b 1, .inl (w.2.1 0, 60, .inl (fun _ => 0))) ∧ (cr_cw w q0 u ++ cr_dw w b)[161]? = some (b 2, .inl (w.2.1 0, 12, .inl (fun _ => 0))) ∧ (cr_cw w q0 u ++ cr_dw w b)[162]? = some (b 3, .inl (w.2.1 0, 5, .inl (fun _ => 0))) := by
  refine ⟨?_, ?_, ?_, ?_⟩ <;>
    (rw [List.getElem?_append_right (by rw [cr_cw_len]; omega), cr_cw_len]; rfl)
theorem cr_V0_0 {a : Nat} (h : ¬ (a < 152 ∧ 3 ≤ a % 19 ∧ a % 19 < 15)) : cr_V0 a = fun _ => 0 := by
  funext k
  unfold cr_V0
  rw [if_neg h]
set_option maxRecDepth 100000 in
set_option maxHeartbeats 4000000 in
theorem cr_conv {D : va_G} {w : cr_Wd} {u : cr_U} {q0 : Nat} {b : Nat → Nat} (hw : w.1 = cr_ad q0 u b) {a : Nat} (h : a < 152) {H : Heap} (hv : va_at D vwCl (w.1 a, cr_pe w (cr_pf u (a / 19)) (a % 19)) H) : va_at D vwCl (w.1 a, cr_row w a (cr_V0 a)) H := by
  have hk : a % 19 < 19 := Nat.mod_lt _ (by decide)
  have ad : ∀ j, a + j < 152 → (a % 19) + j < 19 → w.1 (a + j) = cr_pf u (a / 19) (a % 19 + j) := by
    intro j h1 h2
    rw [hw]
    unfold cr_ad
    rw [if_pos h1, show (a + j) / 19 = a / 19 by omega, show (a + j) % 19 = a % 19 + j by omega]
  by_cases h0 : a % 19 = 0
  · have e1 := ad 1 (by omega) (by omega)
    have e2 := ad 2 (by omega) (by omega)
    rw [h0] at e1 e2 hv
    rw [cr_row_pg w ⟨h, h0⟩, cr_V0_0 (by omega), e1, e2]
    exact hv
  by_cases h1 : a % 19 = 1
  · rw [cr_row_ms w ⟨h, h1⟩]
    rw [h1] at hv
    refine cr_atq (fun j hj => ?_) hv
    have := ad (2 + j) (by omega) (by omega)
    unfold cr_fm
    rw [if_pos hj, show a + 2 + j = a + (2 + j) by omega, this, h1, show 1 + (2 + j) = 3 + j by omega]
  by_cases h2 : a % 19 = 2
  · rw [cr_row_rs w ⟨h, h2⟩]
    rw [h2] at hv
    refine cr_atq (fun j hj => ?_) hv
    have := ad (13 + j) (by omega) (by omega)
    unfold cr_fm
    rw [if_pos hj, show a + 13 + j = a + (13 + j) by omega, this, h2, show 2 + (13 + j) = 15 + j by omega]
  by_cases h3 : a % 19 < 15
  · have e : cr_pe w (cr_pf u (a / 19)) (a % 19) = cr_eM (nI (a % 19 - 3)) := by
      unfold cr_pe
      rw [if_neg h0, if_neg h1, if_neg h2, if_pos h3]
    rw [e] at hv
    have hc : a < 152 ∧ 3 ≤ a % 19 ∧ a % 19 < 15 := ⟨h, by omega, h3⟩
    rw [cr_row_ma w hc]
    have f : ∀ k, cr_V0 a k = (if k = 0 then nI (a % 19 - 3) else if k = 5 then -1 else 0) := fun k => by unfold cr_V0; rw [if_pos hc]
    simp only [f]
    exact hv
  · have e : cr_pe w (cr_pf u (a / 19)) (a % 19) = cr_eG := by
      unfold cr_pe
      rw [if_neg h0, if_neg h1, if_neg h2, if_neg h3]
    rw [e] at hv
    rw [cr_row_rg w ⟨h, by omega⟩, cr_V0_0 (by omega)]
    exact hv
set_option maxRecDepth 100000 in
set_option maxHeartbeats 4000000 in
theorem cr_asm {D : va_G} {w : cr_Wd} {u : cr_U} {q0 : Nat} {b : Nat → Nat} (hw : w.1 = cr_ad q0 u b) {H : Heap} (hn : cr_zn w = 163) (e159 : cr_zl w 159 = 8) (e160 : cr_zl w 160 = 60) (e161 : cr_zl w 161 = 12) (e162 : cr_zl w 162 = 5) (hP : va_P D vwCl (cr_cw w q0 u ++ cr_dw w b) H) (hD : va_D (cr_A w) (cr_cw w q0 u ++ cr_dw w b)) : va_P D vwCl (cr_ws w cr_V0) H ∧ cr_inj w := by
  have key : ∀ a, a < 163 → ∃ e, (cr_cw w q0 u ++ cr_dw w b)[cr_ps a]? = some (w.1 a, e) ∧ (va_at D vwCl (w.1 a, e) H → va_at D vwCl (w.1 a, cr_row w a (cr_V0 a)) H) := by
    intro a ha
    by_cases h : a < 152
    · refine ⟨_, ?_, cr_conv hw h⟩
      rw [cr_L_at w q0 u b h, hw]
      unfold cr_ad
      rw [if_pos h]
    · obtain ⟨c0, c1, c2, c3, c4, c5, c6⟩ := cr_L_c w q0 u b
      obtain ⟨d0, d1, d2, d3⟩ := cr_L_d w q0 u b
      have adv : ∀ k, w.1 k = cr_ad q0 u b k := fun k => by rw [hw]
      rcases (show a = 152 ∨ a = 153 ∨ a = 154 ∨ a = 155 ∨ a = 156 ∨ a = 157 ∨ a = 158 ∨ a = 159 ∨ a = 160 ∨ a = 161 ∨ a = 162 by omega) with rfl | rfl | rfl | rfl | rfl | rfl | rfl | rfl | rfl | rfl | rfl
      · refine ⟨_, c0.trans (by rw [adv]; rfl), fun hv => ?_⟩
        rw [cr_row_152]
        rw [adv 0, adv 19, adv 153, adv 154, adv 156]; exact hv
      · refine ⟨_, c1.trans (by rw [adv]; rfl), fun hv => ?_⟩
        rw [cr_row_153, cr_V0_0 (by omega)]
        exact hv
      · refine ⟨_, c2.trans (by rw [adv]; rfl), fun hv => ?_⟩
        rw [cr_row_154, cr_V0_0 (by omega)]
        simp only [adv] at hv ⊢; exact hv
      · refine ⟨_, c3.trans (by rw [adv]; rfl), fun hv => ?_⟩
        rw [cr_row_155]
        refine cr_atq (fun j hj => ?_) hv
        unfold cr_fm
        rw [if_pos hj, adv]
        unfold cr_ad cr_pf
        rw [if_pos (by omega), if_neg (by omega), if_neg (by omega), show (38 + 19 * j) / 19 - 2 = j by omega, show (38 + 19 * j) % 19 = 0 by omega]
      · refine ⟨_, c4.trans (by rw [adv]; rfl), fun hv => ?_⟩
        rw [cr_row_156, cr_V0_0 (by omega)]
        simp only [adv] at hv ⊢; exact hv
      · refine ⟨_, c5.trans (by rw [adv]; rfl), fun hv => ?_⟩
        rw [cr_row_157, cr_V0_0 (by omega)]
        simp only [adv] at hv ⊢; exact hv
      · refine ⟨_, c6.trans (by rw [adv]; rfl), fun hv => ?_⟩
        rw [cr_row_158]
        rw [cr_V0_0 (by omega)]; exact hv
      · refine ⟨_, d0.trans (by rw [adv]; rfl), fun hv => ?_⟩
        rw [cr_row_big w (by omega), e159, cr_V0_0 (by omega)]
        exact hv
      · refine ⟨_, d1.trans (by rw [adv]; rfl), fun hv => ?_⟩
        rw [cr_row_big w (by omega), e160, cr_V0_0 (by omega)]
        exact hv
      · refine ⟨_, d2.trans (by rw [adv]; rfl), fun hv => ?_⟩
        rw [cr_row_big w (by omega), e161, cr_V0_0 (by omega)]
        exact hv
      · refine ⟨_, d3.trans (by rw [adv]; rfl), fun hv => ?_⟩
        rw [cr_row_big w (by omega), e162, cr_V0_0 (by omega)]
        exact hv
  refine ⟨cr_Pm.mpr (fun x hx => ?_), fun a c ha hc hac => ?_, by omega, fun a ha => ?_⟩
  · obtain ⟨a, ha, rfl⟩ := List.mem_map.mp hx
    obtain ⟨e, h1, h2⟩ := key a (hn ▸ List.mem_range.mp ha)
    exact h2 (hP _ _ h1)
  · rw [hn] at ha hc
    obtain ⟨e1, h1, -⟩ := key a ha
    obtain ⟨e2, h2, -⟩ := key c hc
    have hp : cr_ps a = cr_ps c := hD.1 _ _ _ _ h1 h2 hac
    have hsg : ∀ k, k < 19 → (cr_sg k = k ∧ k ≠ 1 ∧ k ≠ 2) ∨ (k = 1 ∧ cr_sg k = 2) ∨ (k = 2 ∧ cr_sg k = 1) := by
      intro k hk
      unfold cr_sg
      by_cases k1 : k = 1
      · right; left; exact ⟨k1, by rw [if_pos k1]⟩
      · by_cases k2 : k = 2
        · right; right; exact ⟨k2, by rw [if_neg k1, if_pos k2]⟩
        · left; exact ⟨by rw [if_neg k1, if_neg k2], k1, k2⟩
    have sa := hsg (a % 19) (Nat.mod_lt _ (by decide))
    have sc := hsg (c % 19) (Nat.mod_lt _ (by decide))
    unfold cr_ps at hp
    split at hp <;> (try split at hp) <;> (try split at hp) <;> (try split at hp) <;> (try split at hp) <;> (try split at hp) <;> (try split at hp) <;> (try split at hp) <;> omega
  · rw [hn] at ha
    obtain ⟨e, h1, -⟩ := key a ha
    exact hD.2 _ _ h1
