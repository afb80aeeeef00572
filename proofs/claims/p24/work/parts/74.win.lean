/-! winnings and growing: the class -/
theorem sp_go_inv {n k t : Nat} (ht : ∀ j, t ≠ 8 + 5 * j ∧ t ≠ 8 + 5 * j + 1) : ∀ (f : Nat) (q : sp_T), (sp_go n k f q).2.2.2.2.2.2.2 t = q.2.2.2.2.2.2.2 t
  | 0, q => rfl
  | f + 1, q => by
    unfold sp_go
    by_cases h : sp_end q
    · rw [if_pos h]
    · rw [if_neg h, sp_go_inv ht f]
      obtain ⟨m, dx, dy, S, hh, w, g, b⟩ := q
      show (sp_mo n k m _ _ S hh _ g b).2.2.2.2.2.2.2 t = b t
      unfold sp_mo
      by_cases hat : sp_at b (b (8 + 5 * m) + sp_w (b (8 + 5 * m)) dx) (b (8 + 5 * m + 1) + sp_w (b (8 + 5 * m + 1)) dy) n = 99
      · rw [if_pos hat]
        exact sp_mv_o (ht m).1 (ht m).2
      · rw [if_neg hat]
theorem sp_E_inv {n k m S h m' S' h' : Nat} {dx dy w dx' dy' w' : Int32} {g g' : Nat → Bool} {b b' : Nat → Int32} (hE : sp_E n k (m, dx, dy, S, h, w, g, b) (m', dx', dy', S', h', w', g', b')) {t : Nat} (ht : ∀ j, t ≠ 8 + 5 * j ∧ t ≠ 8 + 5 * j + 1) : b' t = b t := by
  obtain ⟨f, h1, h2⟩ := hE
  have h3 := sp_go_inv (n := n) (k := k) ht f (m, dx, dy, S, h, w, g, b)
  rw [h1] at h3
  exact h3
theorem cr_invG {R : Type} {F : Int32 → Int32 → cr_Hp → Option ((Int32 × Int32 × cr_Hp) ⊕ R)} (J : Nat → Int32 → cr_Hp → Prop) (Q : R → Prop) (n : Nat) {g0 : Int32} {V : cr_Hp} (h0 : J 0 g0 V) (h : ∀ i, i < n → ∀ g W, J i g W → ∃ g' W', F g (nI i) W = some (.inl (g', nI (i + 1), W')) ∧ J (i + 1) g' W') (he : ∀ g W, J n g W → ∃ r, F g (nI n) W = some (.inr r) ∧ Q r) (hn : n < 100000) : ∃ r, cr_it (fun (q : Int32 × Int32 × cr_Hp) => F q.1 q.2.1 q.2.2) cr_FU (g0, (0 : Int32), V) = some r ∧ Q r := by
  refine cr_inv (f := fun (q : Int32 × Int32 × cr_Hp) => F q.1 q.2.1 q.2.2) (fun i s => s.2.1 = nI i ∧ J i s.1 s.2.2) Q (n := n) (fun i hi s hs => ?_) (fun s hs => ?_) n 0 cr_FU (g0, 0, V) (by omega) hn ⟨rfl, h0⟩
  · obtain ⟨g, s1, s2⟩ := s
    obtain ⟨h1, h2⟩ := hs
    have h1 : s1 = nI i := h1
    subst h1
    obtain ⟨g', W, e, hj⟩ := h i hi g s2 h2
    exact ⟨(g', nI (i + 1), W), e, rfl, hj⟩
  · obtain ⟨g, s1, s2⟩ := s
    obtain ⟨h1, h2⟩ := hs
    have h1 : s1 = nI n := h1
    subst h1
    exact he g s2 h2
def sp_ra (b : Nat → Int32) (k j : Nat) : Int32 := if b (8 + 5 * j + 4) = -1006 then sp_rs b (b (8 + 5 * j)) (b (8 + 5 * j + 1)) k else 0
theorem cr_C_7 {a j t : Nat} {V : cr_Hp} {b : Nat → Int32} {n k : Nat} {v : Int32} (hn : n ≤ 12) (hk : k ≤ 4) (hC : cr_C a V b n k) (hj : j < 12) (ht : 7 ≤ t) : cr_C a (cr_pt V (a + 1 + 2 + j) t v) b n k := by
  refine cr_C_of hn hk hC hC.1 (fun c hc => by rw [cr_pt_ne (by omega)]) (fun i hi => by rw [cr_pv, if_neg (by omega)]; exact hC.2.2.1 i hi) (fun i hi t _ _ => by rw [cr_pv, if_neg (by omega)]) (fun r hr t _ => by rw [cr_pt_ne (by omega)])
theorem cr_mark {a : Nat} {V : cr_Hp} {b : Nat → Int32} {n k : Nat} (hB : cr_B b n k) (hC : cr_C a V b n k) : ∃ W, f_X3_markAhead a V = some W ∧ cr_C a W b n k ∧ (∀ j, j < n → W (a + 1 + 2 + j) 7 = sp_ra b k j ∧ W (a + 1 + 2 + j) 8 = 0) ∧ ∀ c, c < a ∨ a + 19 ≤ c → W c = V c := by
  have hn := hB.1
  have hk := hB.2.1
  unfold f_X3_markAhead
  obtain ⟨V1, e1, h1⟩ := cr_invH (F := fun x W => f_X3_markAhead_l10 a x W) (V := V) (fun i W => cr_C a W b n k ∧ (∀ j, j < i → j < n → W (a + 1 + 2 + j) 7 = sp_ra b k j ∧ W (a + 1 + 2 + j) 8 = 0) ∧ ∀ c, c < a ∨ a + 19 ≤ c → W c = V c) (fun W => cr_C a W b n k ∧ (∀ j, j < n → W (a + 1 + 2 + j) 7 = sp_ra b k j ∧ W (a + 1 + 2 + j) 8 = 0) ∧ ∀ c, c < a ∨ a + 19 ≤ c → W c = V c) 12
    ⟨hC, fun j hj => absurd hj (by omega), fun _ _ => rfl⟩ (fun i hi W ⟨w1, w2, w3⟩ => by
      have main : ∀ v : Int32, (i < n → v = sp_ra b k i) → (cr_C a (cr_pt (cr_pt W (a + 1 + 2 + i) 7 v) (a + 1 + 2 + i) 8 0) b n k ∧ (∀ j, j < i + 1 → j < n → (cr_pt (cr_pt W (a + 1 + 2 + i) 7 v) (a + 1 + 2 + i) 8 0) (a + 1 + 2 + j) 7 = sp_ra b k j ∧ (cr_pt (cr_pt W (a + 1 + 2 + i) 7 v) (a + 1 + 2 + i) 8 0) (a + 1 + 2 + j) 8 = 0) ∧ ∀ c, c < a ∨ a + 19 ≤ c → (cr_pt (cr_pt W (a + 1 + 2 + i) 7 v) (a + 1 + 2 + i) 8 0) c = V c) := by
        intro v hv
        refine ⟨cr_C_7 hn hk (cr_C_7 hn hk w1 hi (by omega)) hi (by omega), fun j hj hjn => ?_, fun c hc => by rw [cr_pt_ne (by omega), cr_pt_ne (by omega)]; exact w3 c hc⟩
        by_cases h : j = i
        · subst h
          rw [cr_pv, if_neg (by omega), cr_pv, if_pos (by omega), cr_pv, if_pos (by omega)]
          exact ⟨hv hjn, rfl⟩
        · rw [cr_pt_ne (by omega), cr_pt_ne (by omega)]
          exact w2 j (by omega) hjn
      unfold f_X3_markAhead_l10
      rw [cr_L12, if_neg (nI_ge hi (by decide)), cr_gd_e (cr_ix_nI hi (by decide)), nI_clamp (by omega), cr_1]
      by_cases hl : W (a + 1 + 2 + i) 6 = 0
      · rw [if_pos hl, cr_lt_e, cr_lt_e]
        refine ⟨_, rfl, main 0 (fun h => ?_)⟩
        rcases w1.2.2.2.2.1 i h with ⟨-, h6, -⟩ | ⟨l, -, -⟩
        · rw [h6] at hl; exact absurd hl (by decide)
        · unfold sp_ra; rw [if_neg l]
      · rw [if_neg hl]
        have hin : i < n := by
          rcases Nat.lt_or_ge i n with h | h
          · exact h
          · exact absurd (w1.2.2.2.2.2.1 i h hi).1 hl
        obtain ⟨q1, q2, -, -⟩ := w1.2.2.2.1 i hin
        rw [q1, q2, cr_ringsAround hB w1, cr_bd_some, cr_lt_e, cr_lt_e]
        refine ⟨_, rfl, main _ (fun h => ?_)⟩
        rcases w1.2.2.2.2.1 i h with ⟨l, -, -⟩ | ⟨-, h6, -⟩
        · unfold sp_ra; rw [if_pos l]
        · exact absurd h6 hl)
    (fun W hW => ⟨W, by
      unfold f_X3_markAhead_l10
      rw [cr_L12, if_pos (nI_le (Nat.le_refl 12) (by decide))], hW.1, fun j hj => hW.2.1 j (by omega) hj, hW.2.2⟩) (by decide)
  rw [e1, cr_bd_some]
  exact ⟨V1, rfl, h1⟩
/-- who is won -/
abbrev sp_won (k : Nat) (P : Int32) (ra : Nat → Int32) (ht : Nat → Bool) (b : Nat → Int32) (j : Nat) : Prop := b (8 + 5 * j + 4) = -1006 ∧ ht j = true ∧ ¬ b (8 + 5 * j + 3) = P ∧ ¬ ra j = 0 ∧ sp_rs b (b (8 + 5 * j)) (b (8 + 5 * j + 1)) k = 0
def sp_tk (k : Nat) (P : Int32) (ra : Nat → Int32) (ht : Nat → Bool) (b : Nat → Int32) : Nat → Int32 × Int32 × Int32 × (Nat → Int32)
  | 0 => (0, 0, 0, b)
  | j + 1 => if sp_won k P ra ht (sp_tk k P ra ht b j).2.2.2 j then ((sp_tk k P ra ht b j).1 ||| ra j, (sp_tk k P ra ht b j).2.1 + 1, (sp_tk k P ra ht b j).2.2.1 + (sp_tk k P ra ht b j).2.2.2 (8 + 5 * j + 2), upd (sp_tk k P ra ht b j).2.2.2 (8 + 5 * j + 4) P) else sp_tk k P ra ht b j
theorem cr_B_win {b : Nat → Int32} {n k j p : Nat} (hB : cr_B b n k) (hj : j < n) (hp : p < 3) : cr_B (upd b (8 + 5 * j + 4) (nI p)) n k := by
  obtain ⟨hn, hk, b0, b1, b2, bm, br, bd, bz⟩ := hB
  refine ⟨hn, hk, by rw [cr_uv, if_neg (by omega)]; exact b0, by rw [cr_uv, if_neg (by omega)]; exact b1, by rw [cr_uv, if_neg (by omega)]; exact b2, fun i hi => ?_, fun r hr => ?_, fun i i2 hi hi2 hij li lj => ?_, fun i hi => by rw [cr_uv, if_neg (by omega)]; exact bz i hi⟩
  · rw [cr_uv, if_neg (by omega), cr_uv, if_neg (by omega), cr_uv, if_neg (by omega), cr_uv, if_neg (by omega), cr_uv]
    obtain ⟨x, y, s, o, hx, hy, h1, h2, h3, ex, ey, es, eo, ew⟩ := bm i hi
    refine ⟨x, y, s, o, hx, hy, h1, h2, h3, ex, ey, es, eo, ?_⟩
    by_cases h : i = j
    · rw [if_pos (by omega)]; exact Or.inr ⟨p, hp, rfl⟩
    · rw [if_neg (by omega)]; exact ew
  · rw [cr_uv, if_neg (by omega), cr_uv, if_neg (by omega), cr_uv, if_neg (by omega)]; exact br r hr
  · have hl : ∀ i, cr_lie (upd b (8 + 5 * j + 4) (nI p)) i → cr_lie b i := by
      intro i li
      unfold cr_lie at li ⊢
      rw [cr_uv] at li
      by_cases h : i = j
      · rw [if_pos (by omega)] at li; exact absurd li (cr_ne_m1006 (by omega))
      · rw [if_neg (by omega)] at li; exact li
    rw [cr_uv, if_neg (by omega), cr_uv, if_neg (by omega), cr_uv, if_neg (by omega), cr_uv, if_neg (by omega)]
    exact bd i i2 hi hi2 hij (hl i li) (hl i2 lj)
theorem cr_C_win {a j p : Nat} {V : cr_Hp} {b : Nat → Int32} {n k : Nat} (hn : n ≤ 12) (hC : cr_C a V b n k) (hj : j < n) (hp : p < 3) : cr_C a (cr_pt (cr_pt V (a + 1 + 2 + j) 6 0) (a + 1 + 2 + j) 5 (nI p)) (upd b (8 + 5 * j + 4) (nI p)) n k := by
  obtain ⟨c1, c2, c3, c4, c5, c6, c7, c8⟩ := hC
  refine ⟨c1, fun c hc => ?_, fun i hi => ?_, fun i hi => ?_, fun i hi => ?_, fun i hi hi2 => ?_, fun r hr => ?_, fun r hr hr4 => ?_⟩
  · rw [cr_pt_ne (by omega), cr_pt_ne (by omega), cr_uv, if_neg (by omega)]; exact c2 c hc
  · rw [cr_pv, if_neg (by omega), cr_pv, if_neg (by omega)]; exact c3 i hi
  · rw [cr_pv, if_neg (by omega), cr_pv, if_neg (by omega), cr_pv, if_neg (by omega), cr_pv, if_neg (by omega), cr_pv, if_neg (by omega), cr_pv, if_neg (by omega), cr_pv, if_neg (by omega), cr_pv, if_neg (by omega), cr_uv, if_neg (by omega), cr_uv, if_neg (by omega), cr_uv, if_neg (by omega), cr_uv, if_neg (by omega)]
    exact c4 i hi
  · by_cases h : i = j
    · subst h
      refine Or.inr ⟨?_, ?_, ?_⟩
      · rw [cr_lie, cr_uv, if_pos rfl]; exact cr_ne_m1006 (by omega)
      · rw [cr_pv, if_neg (by omega), cr_pv, if_pos (by omega)]
      · rw [cr_pv, if_pos (by omega), cr_uv, if_pos rfl]
    · rw [cr_lie, cr_uv, if_neg (by omega), cr_pt_ne (by omega), cr_pt_ne (by omega)]
      exact c5 i hi
  · rw [cr_pt_ne (by omega), cr_pt_ne (by omega)]; exact c6 i hi hi2
  · rw [cr_pt_ne (by omega), cr_pt_ne (by omega), cr_uv, if_neg (by omega), cr_uv, if_neg (by omega), cr_uv, if_neg (by omega)]; exact c7 r hr
  · rw [cr_pt_ne (by omega), cr_pt_ne (by omega)]; exact c8 r hr hr4
theorem cr_isWon {a j k n : Nat} {V : cr_Hp} {b ra : Nat → Int32} {ht : Nat → Bool} {P : Int32} (hB : cr_B b n k) (hC : cr_C a V b n k) (hj : j < n) (h8 : V (a + 1 + 2 + j) 8 = if ht j = true then 1 else 0) (h7 : V (a + 1 + 2 + j) 7 = ra j) : f_X3_isWonBy a (a + 1 + 2 + j) P V = some (if sp_won k P ra ht b j then 1 else 0) := by
  obtain ⟨e1, e2, e3, e4⟩ := hC.2.2.2.1 j hj
  unfold f_X3_isWonBy
  rw [e1, e2, e4, h7, h8, cr_ringsAround hB hC, cr_bd_some]
  rcases hC.2.2.2.2.1 j hj with ⟨l, l6, -⟩ | ⟨l, l6, -⟩
  · rw [l6, if_neg (by decide)]
    by_cases a1 : ht j = true
    · rw [if_pos a1, if_neg (by decide)]
      by_cases a2 : b (8 + 5 * j + 3) = P
      · rw [if_pos a2, if_neg (fun h => h.2.2.1 a2)]
      · rw [if_neg a2]
        by_cases a3 : ra j = 0
        · rw [if_pos a3, if_neg (fun h => h.2.2.2.1 a3)]
        · rw [if_neg a3]
          by_cases a4 : sp_rs b (b (8 + 5 * j)) (b (8 + 5 * j + 1)) k = 0
          · rw [if_pos a4, if_pos ⟨l, a1, a2, a3, a4⟩]
          · rw [if_neg a4, if_neg (fun h => a4 h.2.2.2.2)]
    · rw [if_neg a1, if_pos rfl, if_neg (fun h => a1 h.2.1)]
  · rw [l6, if_pos (by decide), if_neg (fun h => l h.1)]
theorem cr_or16 : ∀ u : Fin 16, ∀ v : Fin 16, nI u.val ||| nI v.val = nI (u.val ||| v.val) := by decide +kernel
theorem cr_bit0 : ∀ k : Fin 5, ∀ v : Fin 16, v.val < 2 ^ k.val → ∀ r : Fin 4, k.val ≤ r.val → ¬ ((nI v.val >>> (nI r.val &&& 31)) &&& (1 : Int32)) = (1 : Int32) := by decide +kernel
theorem sp_ra_lt {b : Nat → Int32} {k j : Nat} (hk : k ≤ 4) : ∃ s, s < 2 ^ k ∧ sp_ra b k j = nI s := by
  unfold sp_ra
  by_cases h : b (8 + 5 * j + 4) = -1006
  · rw [if_pos h]; exact sp_rs_lt k hk
  · rw [if_neg h]; exact ⟨0, Nat.pow_pos (by decide), rfl⟩
theorem sp_tk_g {k : Nat} {P : Int32} {ra : Nat → Int32} {ht : Nat → Bool} {b : Nat → Int32} (hk : k ≤ 4) (hra : ∀ j, ∃ s, s < 2 ^ k ∧ ra j = nI s) : ∀ i, ∃ s, s < 2 ^ k ∧ (sp_tk k P ra ht b i).1 = nI s
  | 0 => ⟨0, Nat.pow_pos (by decide), rfl⟩
  | i + 1 => by
    obtain ⟨s, s1, s2⟩ := sp_tk_g (P := P) (ht := ht) (b := b) hk hra i
    have h16 : 2 ^ k ≤ 2 ^ 4 := Nat.pow_le_pow_right (by decide) hk
    unfold sp_tk
    by_cases h : sp_won k P ra ht (sp_tk k P ra ht b i).2.2.2 i
    · rw [if_pos h]
      obtain ⟨t, t1, t2⟩ := hra i
      refine ⟨s ||| t, Nat.or_lt_two_pow s1 t1, ?_⟩
      show (sp_tk k P ra ht b i).1 ||| ra i = _
      rw [s2, t2]
      exact cr_or16 ⟨s, by omega⟩ ⟨t, by omega⟩
    · rw [if_neg h]; exact ⟨s, s1, s2⟩
theorem sp_tk_B {k n p : Nat} {ra : Nat → Int32} {ht : Nat → Bool} {b : Nat → Int32} (hB : cr_B b n k) (hp : p < 3) : ∀ i, i ≤ n → cr_B (sp_tk k (nI p) ra ht b i).2.2.2 n k
  | 0, _ => hB
  | i + 1, hi => by
    have ih := sp_tk_B (ra := ra) (ht := ht) hB hp i (by omega)
    unfold sp_tk
    by_cases h : sp_won k (nI p) ra ht (sp_tk k (nI p) ra ht b i).2.2.2 i
    · rw [if_pos h]; exact cr_B_win ih (by omega) hp
    · rw [if_neg h]; exact ih
