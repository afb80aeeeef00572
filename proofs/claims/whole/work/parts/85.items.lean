/-! readItems -/
theorem cr_whyDP {b : Nat → Int32} {n k : Nat} (hB : cr_B b n k) (hex : ∃ V, cr_C 0 V b n k) (x y d : Int32) : ∃ r, (∀ V, cr_C 0 V b n k → f_X3_refusalOfRing 0 x y d V = some r) ∧ (∀ W : cr_Hp, W 160 = b → f_X8_whyNotDrawn x y d W = some r) ∧ ((r < 0 ∧ ¬ r = 0 ∧ ¬ 0 ≤ r) ∨ (r = 0 ∧ k < 4 ∧ ∃ X Y D, X ≤ 30 ∧ Y ≤ 30 ∧ 1 ≤ D ∧ D ≤ 15 ∧ x = nI X ∧ y = nI Y ∧ d = nI D)) := by
  obtain ⟨V0, h0⟩ := hex
  obtain ⟨r, r1, r2, r3⟩ := cr_whyD hB h0 x y d
  refine ⟨r, fun V hV => ?_, r2, r3⟩
  obtain ⟨r', q1, q2, -⟩ := cr_whyD hB hV x y d
  have := (r2 (fun _ => b) rfl).symm.trans (q2 (fun _ => b) rfl)
  rw [q1, this]
theorem cr_whyP {b : Nat → Int32} {n k : Nat} (hB : cr_B b n k) (hex : ∃ V, cr_C 0 V b n k) (x y s o : Int32) : ∃ r, (∀ V, cr_C 0 V b n k → f_X3_refusalOfMarble 0 x y s o V = some r) ∧ (∀ W : cr_Hp, W 160 = b → f_X8_whyNotPut x y s o W = some r) ∧ ((r < 0 ∧ ¬ r = 0 ∧ ¬ 0 ≤ r) ∨ (r = 0 ∧ n < 12 ∧ ∃ X Y S O, X ≤ 30 ∧ Y ≤ 30 ∧ 1 ≤ S ∧ S ≤ 3 ∧ O < 3 ∧ x = nI X ∧ y = nI Y ∧ s = nI S ∧ o = nI O ∧ ∀ i, i < n → ¬ cr_on_pt b i (nI X) (nI Y))) := by
  obtain ⟨V0, h0⟩ := hex
  obtain ⟨r, r1, r2, r3⟩ := cr_why hB h0 x y s o
  refine ⟨r, fun V hV => ?_, r2, r3⟩
  obtain ⟨r', q1, q2, -⟩ := cr_why hB hV x y s o
  have := (r2 (fun _ => b) rfl).symm.trans (q2 (fun _ => b) rfl)
  rw [q1, this]
theorem cr_add1 {b : Nat → Int32} {n k x y a p : Nat} {g : Bool} (hB : cr_B b n k) (hex : ∃ V, cr_C 0 V b n k) : ∃ ok : Bool, ∃ b' n' k', cr_B b' n' k' ∧ (∃ V, cr_C 0 V b' n' k') ∧
    (∀ V : cr_Hp, cr_C 0 V b n k → V 156 3 = (if g = true then 1 else 0) → V 156 4 = nI x → V 156 5 = nI y → (g = true → V 156 6 = nI a) → (g = false → V 156 7 = nI a ∧ V 156 8 = nI p) → ∃ W, f_X7_addItemRead V = some ((if ok = true then (1 : Int32) else 0), W) ∧ cr_C 0 W b' n' k' ∧ ∀ c, 19 ≤ c → W c = V c) ∧
    (∀ V : cr_Hp, V 160 = b → V 159 16 = (if g = true then 114 else 109) → V 159 18 = nI x → V 159 19 = nI y → V 159 20 = nI a → (g = false → V 159 21 = nI p) → ∃ W, f_X8_does V = some ((if ok = true then (1 : Int32) else 0), W) ∧ W 160 = b' ∧ ∀ c, c ≠ 160 → W c = V c) := by
  cases g with
  | true =>
    obtain ⟨r, r1, r2, r3⟩ := cr_whyDP hB hex (nI x) (nI y) (nI a)
    rcases r3 with ⟨n1, n2, n3⟩ | ⟨r0, hk, X, Y, D, hX, hY, s1, s2, ex, ey, ed⟩
    · refine ⟨false, b, n, k, hB, hex, fun V hC h3 h4 h5 h6 h7 => ?_, fun V hV h16 h18 h19 h20 h21 => ?_⟩
      · refine ⟨V, ?_, hC, fun _ _ => rfl⟩
        unfold f_X7_addItemRead
        rw [h3, if_neg (by decide), h4, h5, h6 rfl, r1 V hC, cr_bd_some, if_neg n2]; rfl
      · refine ⟨V, ?_, hV, fun _ _ => rfl⟩
        unfold f_X8_does
        rw [h16, if_pos rfl, if_pos rfl]
        unfold f_X8_does_b14
        rw [if_neg (by decide), h18, h19, h20, r2 V hV, cr_bd_some]
        unfold f_X8_does_b58 f_X8_does_b87 f_X8_does_b112
        rw [if_neg n2, if_neg n2, if_neg n2]; rfl
    · subst r0
      have hB' := cr_B_dr hB hk hX hY s1 s2
      rw [← ex, ← ey, ← ed] at hB'
      refine ⟨true, _, n, k + 1, hB', ?_, fun V hC h3 h4 h5 h6 h7 => ?_, fun V hV h16 h18 h19 h20 h21 => ?_⟩
      · obtain ⟨V0, h0⟩ := hex
        obtain ⟨W, -, hW, -⟩ := cr_addR (x := nI x) (y := nI y) (d := nI a) hB h0 hk
        exact ⟨W, hW⟩
      · obtain ⟨W, e, hW, hf⟩ := cr_addR (x := nI x) (y := nI y) (d := nI a) hB hC hk
        refine ⟨W, ?_, hW, hf⟩
        unfold f_X7_addItemRead
        rw [h3, if_neg (by decide), h4, h5, h6 rfl, r1 V hC, cr_bd_some, if_pos rfl, e, cr_b2_some, if_neg (cr_nn (by omega))]; rfl
      · obtain ⟨W, e, hW, hf⟩ := cr_mdr (x := nI x) (y := nI y) (d := nI a) hB hV hk
        refine ⟨W, ?_, hW, hf⟩
        unfold f_X8_does
        rw [h16, if_pos rfl, if_pos rfl]
        unfold f_X8_does_b14
        rw [if_neg (by decide), h18, h19, h20, r2 V hV, cr_bd_some]
        unfold f_X8_does_b58
        rw [if_pos rfl, if_neg (by decide), h18, h19, h20, e, cr_b2_some]
        unfold f_X8_does_b112
        rw [if_pos rfl]; rfl
  | false =>
    obtain ⟨r, r1, r2, r3⟩ := cr_whyP hB hex (nI x) (nI y) (nI a) (nI p)
    rcases r3 with ⟨n1, n2, n3⟩ | ⟨r0, hk, X, Y, S, O, hX, hY, s1, s2, hO, ex, ey, es, eo, ho⟩
    · refine ⟨false, b, n, k, hB, hex, fun V hC h3 h4 h5 h6 h7 => ?_, fun V hV h16 h18 h19 h20 h21 => ?_⟩
      · obtain ⟨h7, h8⟩ := h7 rfl
        refine ⟨V, ?_, hC, fun _ _ => rfl⟩
        unfold f_X7_addItemRead
        rw [h3, if_pos (by decide), h4, h5, h7, h8, r1 V hC, cr_bd_some, if_neg n2]; rfl
      · have h21 := h21 rfl
        refine ⟨V, ?_, hV, fun _ _ => rfl⟩
        unfold f_X8_does
        rw [h16, if_neg (by decide)]
        unfold f_X8_does_b14
        rw [if_pos rfl, h18, h19, h20, h21, r2 V hV, cr_bd_some]
        unfold f_X8_does_b58 f_X8_does_b87 f_X8_does_b112
        rw [if_neg n2, if_neg n2, if_neg n2]; rfl
    · subst r0
      have hB' := cr_B_put hB hk hX hY s1 s2 hO ho
      rw [← ex, ← ey, ← es, ← eo] at hB'
      refine ⟨true, _, n + 1, k, hB', ?_, fun V hC h3 h4 h5 h6 h7 => ?_, fun V hV h16 h18 h19 h20 h21 => ?_⟩
      · obtain ⟨V0, h0⟩ := hex
        obtain ⟨W, -, hW, -⟩ := cr_add (x := nI x) (y := nI y) (s := nI a) (o := nI p) hB h0 hk
        exact ⟨W, hW⟩
      · obtain ⟨h7, h8⟩ := h7 rfl
        obtain ⟨W, e, hW, hf⟩ := cr_add (x := nI x) (y := nI y) (s := nI a) (o := nI p) hB hC hk
        refine ⟨W, ?_, hW, hf⟩
        unfold f_X7_addItemRead
        rw [h3, if_pos (by decide), h4, h5, h7, h8, r1 V hC, cr_bd_some, if_pos rfl, e, cr_b2_some, if_neg (cr_nn (by omega))]; rfl
      · have h21 := h21 rfl
        obtain ⟨W, e, hW, hf⟩ := cr_mput (x := nI x) (y := nI y) (s := nI a) (o := nI p) hB hV hk
        refine ⟨W, ?_, hW, hf⟩
        unfold f_X8_does
        rw [h16, if_neg (by decide)]
        unfold f_X8_does_b14
        rw [if_pos rfl, h18, h19, h20, h21, r2 V hV, cr_bd_some]
        unfold f_X8_does_b58
        rw [if_pos rfl, if_pos rfl]
        unfold f_X8_does_b87
        rw [if_pos rfl, h18, h19, h20, h21, e, cr_b2_some]
        unfold f_X8_does_b112
        rw [if_pos rfl]; rfl
def cr_at (V : cr_Hp) (L : Nat) (T : Nat → Int32) (q : Nat) : Prop := V 156 2 = 0 ∧ ((q = 0 ∧ V 156 1 = nI 0) ∨ (1 < q ∧ V 156 1 = nI (q - 1) ∧ sp_c L T (q - 1) = 59))
theorem cr_rd {L : Nat} {T : Nat → Int32} (hTx : cr_Tx L T) : ∀ (f q n k : Nat) (b : Nat → Int32), cr_B b n k → (∃ V, cr_C 0 V b n k) → sp_er L T f q = -1006 → L - q < f → q ≤ L →
    ∃ c b' n' k', cr_B b' n' k' ∧
      (∀ (V : cr_Hp) (done fuel : Nat), cr_TX V L T → cr_C 0 V b n k → cr_at V L T q → done ≤ q → f < fuel → ∃ z W, cr_it (fun (q : Int32 × cr_Hp) => f_X7_readItems_l34 q.1 q.2) fuel (nI done, V) = some z ∧ (z = .inl (nI (done + c), W) ∨ z = .inr (nI (done + c), W)) ∧ cr_C 0 W b' n' k' ∧ ∀ c', 19 ≤ c' → c' ≠ 156 → W c' = V c') ∧
      (∀ (V : cr_Hp) (done fuel : Nat), cr_MX V L T → V 160 = b → V 159 15 = nI q → f < fuel → ∃ W, cr_it (fun (q : Int32 × Int32 × cr_Hp) => f_X8_readItems_l27 q.1 q.2.1 q.2.2) fuel (nI done, (1 : Int32), V) = some (nI (done + c), W) ∧ W 160 = b' ∧ (∀ c', c' ≠ 159 → c' ≠ 160 → W c' = V c') ∧ ∀ t, t < 15 → W 159 t = V 159 t)
  | 0, q, n, k, b, _, _, _, hf, _ => by omega
  | f + 1, q, n, k, b, hB, hex, hv, hf, hq => by
    have hL := hTx.1
    rcases hit : sp_it L T q with q' | ⟨g, x, y, a, p, q'⟩
    · rw [sp_er_l hit] at hv
      exact absurd hv (cr_ne_m1006 (by have := sp_it_le hit hq; omega))
    · obtain ⟨n1, n2⟩ := sp_it_end hit
      rw [sp_er_r hit] at hv
      obtain ⟨ok, b1, m1, k1, hB1, hex1, aC, aM⟩ := cr_add1 (x := x) (y := y) (a := a) (p := p) (g := g) hB hex
      -- the class's item
      have stepC : ∀ (V : cr_Hp) (done : Nat), cr_TX V L T → cr_C 0 V b n k → cr_at V L T q → done ≤ q → ∃ W, f_X7_readItems_l34 (nI done) V = some (if ok = true then .inl (nI (done + 1), W) else .inr (.inl (nI done, W))) ∧ cr_C 0 W b1 m1 k1 ∧ (∀ c', 19 ≤ c' → c' ≠ 156 → W c' = V c') ∧ W 156 1 = nI q' ∧ W 156 2 = 0 := by
        intro V done hT hC ⟨h2, hp⟩ hd
        have item : ∃ W, f_X1_readItem V = some W ∧ (∀ c, c ≠ 156 → W c = V c) ∧ cr_oC W (sp_it L T q) := by
          rcases hp with ⟨hq0, hp1⟩ | ⟨hq0, hp1, hp2⟩
          · subst hq0
            unfold f_X1_readItem
            rw [hp1, if_pos (by decide)]
            exact cr_item13 hT ⟨fun _ _ => rfl, hp1, h2, by omega⟩ (by omega)
          · have := (cr_nextItem (q := q - 1) hT ⟨fun _ _ => rfl, hp1, h2, by omega⟩ (by omega) (by omega)).1 hp2
            rw [show q - 1 + 1 = q by omega] at this
            exact this
        have more : f_X1_hasMore V = some 1 := by
          rcases hp with ⟨hq0, hp1⟩ | ⟨hq0, hp1, hp2⟩
          · rw [cr_more1 h2 hp1 hT.2.1 (by omega) (by omega), if_neg (by omega)]
          · rw [cr_more1 h2 hp1 hT.2.1 (by omega) (by omega), if_neg (by omega)]
        obtain ⟨W1, e1, f1, o1⟩ := item
        obtain ⟨i1, i2, i3, i4, i5, i6, i7⟩ := o1.2 g x y a p q' hit
        obtain ⟨W2, e2, hC2, f2⟩ := aC W1 (cr_C_fr hB.1 hB.2.1 hC (fun c c1 c2 => f1 c (by omega))) i3 i4 i5 i6 i7
        refine ⟨W2, ?_, hC2, fun c' c1 c2 => by rw [f2 c' c1, f1 c' c2], by rw [f2 _ (by omega)]; exact i1, by rw [f2 _ (by omega)]; exact i2⟩
        unfold f_X7_readItems_l34
        rw [cr_L80, if_neg (nI_ge (by omega) (by decide)), more, cr_bd_some, if_neg (by decide), e1, cr_bd_some, e2, cr_b2_some]
        cases ok with
        | true => rw [if_pos rfl, if_neg (by decide), if_pos rfl, cr_1]
        | false =>
          rw [if_pos (show (if false = true then (1 : Int32) else 0) = 0 from rfl)]; rfl
      have stepM : ∀ (V : cr_Hp) (done : Nat), cr_MX V L T → V 160 = b → V 159 15 = nI q → ∃ W, f_X8_readItems_l27 (nI done) (1 : Int32) V = some (.inl ((if ok = true then nI (done + 1) else nI done), (if ok = true then (1 : Int32) else 0), W)) ∧ W 160 = b1 ∧ (∀ c', c' ≠ 159 → c' ≠ 160 → W c' = V c') ∧ (∀ t, t < 15 → W 159 t = V 159 t) ∧ W 159 15 = nI (if sp_c L T q' = 59 then q' + 1 else q') := by
        intro V done hT hV h15
        obtain ⟨r, W1, e1, N1, O1⟩ := cr_mitem (V0 := V) (q := q) hT ⟨fun _ _ => rfl, fun _ _ => rfl, h15, by omega⟩ hq
        obtain ⟨r1, o15, o16, o18, o19, o20, o21⟩ := O1.2 g x y a p q' hit
        subst r1
        have hoq : sp_oq (sp_it L T q) = q' := by rw [hit]; rfl
        rw [hoq] at N1
        have nx : ∃ r2 W2, f_X8_isNext (59 : Int32) W1 = some (r2, W2) ∧ cr_N V W2 (if sp_c L T q' = 59 then q' + 1 else q') ∧ ∀ t, 16 ≤ t → W2 159 t = W1 159 t := by
          obtain ⟨y1, y2⟩ := cr_next1 (z := 59) hT N1 (by omega) (by omega)
          by_cases hc : sp_c L T q' = 59
          · obtain ⟨W2, e2, N2, k2⟩ := y1 hc
            rw [if_pos hc]
            exact ⟨1, W2, e2, N2, k2⟩
          · obtain ⟨W2, e2, N2, k2⟩ := y2 hc
            rw [if_neg hc]
            exact ⟨0, W2, e2, N2, k2⟩
        obtain ⟨r2, W2, e2, N2, k2⟩ := nx
        obtain ⟨W3, e3, h160, f3⟩ := aM W2 (by rw [N2.1 160 (by omega)]; exact hV) (by rw [k2 _ (by omega)]; exact o16) (by rw [k2 _ (by omega)]; exact o18) (by rw [k2 _ (by omega)]; exact o19) (by rw [k2 _ (by omega)]; exact o20) (fun h => by rw [k2 _ (by omega)]; exact o21 h)
        refine ⟨W3, ?_, h160, fun c' c1 c2 => by rw [f3 c' c2, N2.1 c' c1], fun t ht => by rw [f3 _ (by omega), N2.2.1 t ht], by rw [f3 _ (by omega)]; exact N2.2.2.1⟩
        unfold f_X8_readItems_l27
        rw [if_neg (by decide), hT.2.1, h15, if_neg (nI_ge (by omega) (by omega)), e1, cr_b2_some, e2, cr_b2_some, e3, cr_b2_some]
        cases ok with
        | true => rw [if_pos rfl, if_neg (by decide), if_pos rfl, cr_1]
        | false =>
          rw [if_pos (show (if false = true then (1 : Int32) else 0) = 0 from rfl), Int32.add_zero]; rfl
      cases ok with
      | false =>
        refine ⟨0, b1, m1, k1, hB1, fun V done fuel hT hC ha hd hu => ?_, fun V done fuel hT hV h15 hu => ?_⟩
        · obtain ⟨W, e, hC1, f1, -, -⟩ := stepC V done hT hC ha hd
          obtain ⟨fu, rfl⟩ : ∃ g, fuel = g + 1 := ⟨fuel - 1, by omega⟩
          exact ⟨.inl (nI done, W), W, cr_it_r (f := fun (q : Int32 × cr_Hp) => f_X7_readItems_l34 q.1 q.2) (s := (nI done, V)) e, Or.inl rfl, hC1, f1⟩
        · obtain ⟨W, e, h1, f1, f9, -⟩ := stepM V done hT hV h15
          obtain ⟨fu, rfl⟩ : ∃ g, fuel = g + 1 + 1 := ⟨fuel - 2, by omega⟩
          refine ⟨W, (cr_it_l (f := fun (q : Int32 × Int32 × cr_Hp) => f_X8_readItems_l27 q.1 q.2.1 q.2.2) (s := (nI done, (1 : Int32), V)) e).trans (cr_it_r ?_), h1, f1, f9⟩
          show f_X8_readItems_l27 (nI done) (0 : Int32) W = _
          unfold f_X8_readItems_l27
          rw [if_pos rfl]; rfl
      | true =>
        by_cases hl : q' = L
        · refine ⟨1, b1, m1, k1, hB1, fun V done fuel hT hC ha hd hu => ?_, fun V done fuel hT hV h15 hu => ?_⟩
          · obtain ⟨W, e, hC1, f1, w1, w2⟩ := stepC V done hT hC ha hd
            obtain ⟨fu, rfl⟩ : ∃ g, fuel = g + 1 + 1 := ⟨fuel - 2, by omega⟩
            refine ⟨.inr (nI (done + 1), W), W, (cr_it_l (f := fun (q : Int32 × cr_Hp) => f_X7_readItems_l34 q.1 q.2) (s := (nI done, V)) e).trans (cr_it_r ?_), Or.inr rfl, hC1, f1⟩
            show f_X7_readItems_l34 (nI (done + 1)) W = _
            unfold f_X7_readItems_l34
            by_cases h80 : (80 : Int32) ≤ nI (done + 1)
            · rw [if_pos h80]
            · rw [if_neg h80, cr_more1 w2 w1 (show W 157 1 = nI L by rw [f1 _ (by omega) (by omega)]; exact hT.2.1) (by omega) (by omega), if_pos (by omega), cr_bd_some, if_pos rfl]
          · obtain ⟨W, e, h1, f1, f9, w15⟩ := stepM V done hT hV h15
            obtain ⟨fu, rfl⟩ : ∃ g, fuel = g + 1 + 1 := ⟨fuel - 2, by omega⟩
            refine ⟨W, (cr_it_l (f := fun (q : Int32 × Int32 × cr_Hp) => f_X8_readItems_l27 q.1 q.2.1 q.2.2) (s := (nI done, (1 : Int32), V)) e).trans (cr_it_r ?_), h1, f1, f9⟩
            show f_X8_readItems_l27 (nI (done + 1)) (1 : Int32) W = _
            unfold f_X8_readItems_l27
            rw [if_neg (by decide), w15, show W 159 5 = nI L by rw [f9 5 (by omega)]; exact hT.2.1, if_pos (nI_le (by split <;> omega) (by split <;> omega))]
        · rw [if_neg hl] at hv
          by_cases hc : sp_c L T q' = 59
          · rw [if_pos hc] at hv
            obtain ⟨c, b', n', k', hB', iC, iM⟩ := cr_rd hTx f (q' + 1) m1 k1 b1 hB1 hex1 hv (by omega) (by omega)
            refine ⟨c + 1, b', n', k', hB', fun V done fuel hT hC ha hd hu => ?_, fun V done fuel hT hV h15 hu => ?_⟩
            · obtain ⟨W, e, hC1, f1, w1, w2⟩ := stepC V done hT hC ha hd
              obtain ⟨fu, rfl⟩ : ∃ g, fuel = g + 1 := ⟨fuel - 1, by omega⟩
              obtain ⟨z, W2, z1, z2, z3, z4⟩ := iC W (done + 1) fu ⟨hT.1, by rw [f1 _ (by omega) (by omega)]; exact hT.2.1, fun i hi => by rw [f1 _ (by omega) (by omega)]; exact hT.2.2 i hi⟩ hC1 ⟨w2, Or.inr ⟨by omega, w1, hc⟩⟩ (by omega) (by omega)
              refine ⟨z, W2, (cr_it_l (f := fun (q : Int32 × cr_Hp) => f_X7_readItems_l34 q.1 q.2) (s := (nI done, V)) e).trans z1, ?_, z3, fun c' c1 c2 => by rw [z4 c' c1 c2, f1 c' c1 c2]⟩
              rw [show done + (c + 1) = done + 1 + c by omega]
              exact z2
            · obtain ⟨W, e, h1, f1, f9, w15⟩ := stepM V done hT hV h15
              rw [if_pos hc] at w15
              obtain ⟨fu, rfl⟩ : ∃ g, fuel = g + 1 := ⟨fuel - 1, by omega⟩
              obtain ⟨W2, z1, z2, z3, z4⟩ := iM W (done + 1) fu ⟨hT.1, by rw [f9 5 (by omega)]; exact hT.2.1, fun i hi => by rw [f1 _ (by omega) (by omega)]; exact hT.2.2 i hi⟩ h1 w15 (by omega)
              refine ⟨W2, ?_, z2, fun c' c1 c2 => by rw [z3 c' c1 c2, f1 c' c1 c2], fun t ht => by rw [z4 t ht, f9 t ht]⟩
              rw [show done + (c + 1) = done + 1 + c by omega]
              exact (cr_it_l (f := fun (q : Int32 × Int32 × cr_Hp) => f_X8_readItems_l27 q.1 q.2.1 q.2.2) (s := (nI done, (1 : Int32), V)) e).trans z1
          · rw [if_neg hc] at hv
            exact absurd hv (cr_ne_m1006 (by omega))
theorem cr_IC_0 {V : cr_Hp} {b : Nat → Int32} {n k m L : Nat} {H : Nat → Nat → Int32} {T : Nat → Int32} (h : cr_IC V b n k m H L T) : cr_IC (cr_pt V 157 1 (0 : Int32)) b n k m H 0 T := by
  obtain ⟨hB, hC, hN, hH, hL, hT, hT2⟩ := h
  exact ⟨hB, cr_C_fr hB.1 hB.2.1 hC (fun c c1 c2 => cr_pt_ne (by omega)), fun a ha j hj => by rw [cr_pt_ne (by omega)]; exact hN a ha j hj, cr_Hi_fr hH (fun c c1 c2 c3 => cr_pt_ne (by omega)), ⟨by omega, fun i hi => absurd hi (by omega)⟩, by rw [cr_pv, if_pos ⟨rfl, rfl⟩]; rfl, fun i hi => absurd hi (by omega)⟩
theorem cr_IM_0 {V : cr_Hp} {b : Nat → Int32} {m L : Nat} {H : Nat → Nat → Int32} {T : Nat → Int32} (h : cr_IM V b m H L T) : cr_IM (cr_pt V 159 5 (0 : Int32)) b m H 0 T := by
  obtain ⟨hV, h3, hH, hL, hT, hS⟩ := h
  exact ⟨by rw [cr_pt_ne (by omega)]; exact hV, by rw [cr_pv, if_neg (by omega)]; exact h3, fun i hi t ht => by rw [cr_pt_ne (by omega)]; exact hH i hi t ht, by rw [cr_pv, if_pos ⟨rfl, rfl⟩]; rfl, fun i hi => absurd hi (by omega), by rw [cr_St, cr_pt_ne (by omega), cr_pt_ne (by omega)]; exact hS⟩
theorem cr_m_items {V : cr_Hp} (h : cr_I V) : ∃ r V1 V2, f_X7_readItems V = some (r, V1) ∧ f_X8_readItems V1 = some (r, V2) ∧ cr_I V2 := by
  obtain ⟨b, n, k, m, H, L, T, hI, hM⟩ := h
  obtain ⟨F, hF⟩ : ∃ F, F = 90 := ⟨_, rfl⟩
  have hTx := hI.2.2.2.2.1
  have hL := hTx.1
  obtain ⟨W1, e1, f1⟩ := cr_synC F hF (cr_TX_of hI)
  have hI1 := cr_IC_x hI f1
  have hM1 := cr_IM_fr hM (W := W1) (fun c hc => f1 c (by omega))
  unfold f_X7_readItems f_X8_readItems
  rw [e1, cr_b2_some]
  by_cases hv : sp_er L T F 0 = -1006
  · rw [if_pos hv]
    obtain ⟨W2, e2, hI2, f2⟩ := cr_save hI1
    obtain ⟨V3, eV3⟩ : ∃ V3, V3 = cr_pt (cr_pt W2 156 1 (0 : Int32)) 156 2 (0 : Int32) := ⟨_, rfl⟩
    have f3 : ∀ c, c ≠ 156 → V3 c = W2 c := fun c hc => by rw [eV3, cr_pt_ne hc, cr_pt_ne hc]
    have hI3 := cr_IC_x hI2 f3
    have p1 : V3 156 1 = nI 0 := by rw [eV3, cr_pv, if_neg (by omega), cr_pv, if_pos ⟨rfl, rfl⟩]; rfl
    have p2 : V3 156 2 = 0 := by rw [eV3, cr_pv, if_pos ⟨rfl, rfl⟩]
    obtain ⟨c, b', n', k', hB', iC, iM⟩ := cr_rd hTx F 0 n k b hI.1 ⟨V3, hI3.2.1⟩ hv (by omega) (by omega)
    obtain ⟨z, W4, z1, z2, z3, z4⟩ := iC V3 0 cr_FU (cr_TX_of hI3) hI3.2.1 ⟨p2, Or.inl ⟨rfl, p1⟩⟩ (by omega) (show F < 100000 by omega)
    have hI4 := cr_IC_b hI3 hB' z3 (fun c c1 c2 c3 => z4 c (by omega) (by omega)) (fun j hj => by rw [z4 _ (by omega) (by omega)]; exact hI3.2.2.1 19 (by omega) j hj)
    have hI5 := cr_IC_0 hI4
    have eC : cr_bd (f_X0_save 0 W1) (fun (V22 : cr_Hp) => cr_bd (f_X1_start V22) (fun (V29 : cr_Hp) => cr_bd (cr_it (fun (q : Int32 × cr_Hp) => f_X7_readItems_l34 q.1 q.2) cr_FU ((0 : Int32), V29)) (cr_sm (cr_u2 (fun (u1_34_64 : Int32) (V_e34_64 : cr_Hp) => cr_lt (cr_pt V_e34_64 157 1 (0 : Int32)) (fun (V81 : cr_Hp) => some (u1_34_64, V81)))) (cr_u2 (fun (u1_34_73 : Int32) (V_e34_73 : cr_Hp) => cr_lt (cr_pt V_e34_73 157 1 (0 : Int32)) (fun (V81 : cr_Hp) => some (u1_34_73, V81))))))) = some (nI c, cr_pt W4 157 1 (0 : Int32)) := by
      rw [e2, cr_bd_some]
      unfold f_X1_start
      rw [cr_lt_e, cr_lt_e, cr_bd_some, ← eV3, show cr_it (fun (q : Int32 × cr_Hp) => f_X7_readItems_l34 q.1 q.2) cr_FU ((0 : Int32), V3) = some z from z1, cr_bd_some]
      rw [Nat.zero_add] at z2
      rcases z2 with rfl | rfl <;> rfl
    have hM4 := cr_IM_fr hM1 (W := cr_pt W4 157 1 (0 : Int32)) (fun c hc => by rw [cr_pt_ne (by omega), z4 c (by omega) (by omega), f3 c (by omega), f2 c (by omega)])
    obtain ⟨W5, e5, f5, f59⟩ := cr_synM F hF (cr_MX_of hTx hM4)
    have hM5 : cr_IM W5 b m H L T := cr_IM_c hM4 (fun c _ c1 _ _ _ => f5 c c1) (fun t ht => f59 t (by omega)) (by rw [f5 _ (by omega)]; exact hM4.1)
    obtain ⟨W6, e6, hM6, f6⟩ := cr_record (cr_IM_m hI) hM5
    obtain ⟨V7, eV7⟩ : ∃ V7, V7 = cr_pt W6 159 15 (0 : Int32) := ⟨_, rfl⟩
    have hM7 : cr_IM V7 b (sp_hm m) (sp_hh m b H) L T := by
      rw [eV7]
      exact cr_IM_c hM6 (fun c _ c1 _ _ _ => cr_pt_ne c1) (fun t ht => by rw [cr_pv, if_neg (by omega)]) (by rw [cr_pt_ne (by omega)]; exact hM6.1)
    obtain ⟨W8, y1, y2, y3, y4⟩ := iM V7 0 cr_FU (cr_MX_of hTx hM7) hM7.1 (by rw [eV7, cr_pv, if_pos ⟨rfl, rfl⟩]; rfl) (show F < 100000 by omega)
    rw [Nat.zero_add] at y1
    have hM8 : cr_IM W8 b' (sp_hm m) (sp_hh m b H) L T := cr_IM_c hM7 (fun c _ c1 c2 _ _ => y3 c c1 c2) (fun t ht => y4 t (by omega)) y2
    refine ⟨nI c, cr_pt W4 157 1 (0 : Int32), cr_pt W8 159 5 (0 : Int32), eC, ?_, ⟨b', n', k', sp_hm m, sp_hh m b H, 0, T, cr_IC_fr hI5 (fun c hc => ?_), cr_IM_0 hM8⟩⟩
    · rw [e5, cr_b2_some, if_pos hv, e6, cr_bd_some, cr_lt_e, ← eV7, show cr_it (fun (q : Int32 × Int32 × cr_Hp) => f_X8_readItems_l27 q.1 q.2.1 q.2.2) cr_FU ((0 : Int32), (1 : Int32), V7) = some (nI c, W8) from y1, cr_bd_some]; rfl
    · rw [cr_pt_ne (by omega), y3 c (by omega) (by omega), eV7, cr_pt_ne (by omega), f6 c (by omega) (by omega), f5 c (by omega)]
  · rw [if_neg hv]
    obtain ⟨W2, e2, f2, f9⟩ := cr_synM F hF (cr_MX_of hTx hM1)
    refine ⟨-1005, W1, W2, rfl, ?_, ⟨b, n, k, m, H, L, T, cr_IC_fr hI1 (fun c hc => f2 c (by omega)), cr_IM_c hM1 (fun c _ c1 _ _ _ => f2 c c1) (fun t ht => f9 t (by omega)) (by rw [f2 _ (by omega)]; exact hM1.1)⟩⟩
    rw [e2, cr_b2_some, if_neg hv]
