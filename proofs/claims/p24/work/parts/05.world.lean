/-! The world of the claim: the class's 159 cells with fixed shape, then int arrays (the law's, and those that a method makes), their numbers a function of cell and place. -/
abbrev cr_Hp : Type := Nat → Nat → Int32
def cr_pt (V : cr_Hp) (a k : Nat) (x : Int32) : cr_Hp := fun b => if b = a then upd (V b) k x else V b
theorem cr_pt_ne {V : cr_Hp} {a k b : Nat} {x : Int32} (h : b ≠ a) : cr_pt V a k x b = V b := if_neg h
theorem cr_pt_eq {V : cr_Hp} {a k : Nat} {x : Int32} : cr_pt V a k x a = upd (V a) k x := if_pos rfl
abbrev cr_pg (a : Nat) : Prop := a < 152 ∧ a % 19 = 0
abbrev cr_ms (a : Nat) : Prop := a < 152 ∧ a % 19 = 1
abbrev cr_rs (a : Nat) : Prop := a < 152 ∧ a % 19 = 2
abbrev cr_ma (a : Nat) : Prop := a < 152 ∧ 3 ≤ a % 19 ∧ a % 19 < 15
abbrev cr_rg (a : Nat) : Prop := a < 152 ∧ 15 ≤ a % 19
/-- the world's parameters: addresses, array classes, class numbers and slots, the two constant tables; the arrays' lengths, how many cells there are, where the room begins, the script: its cell, its length, its ints -/
abbrev cr_Wd : Type := (Nat → Nat) × (Nat → ClassId) × va_G × Nat × Nat × (Nat → Nat) × Nat × Nat × Nat × Nat × (Nat → Int32)
abbrev cr_zl (w : cr_Wd) : Nat → Nat := w.2.2.2.2.2.1
abbrev cr_zn (w : cr_Wd) : Nat := w.2.2.2.2.2.2.1
abbrev cr_z0 (w : cr_Wd) : Nat := w.2.2.2.2.2.2.2.1
abbrev cr_zb (w : cr_Wd) : Nat := w.2.2.2.2.2.2.2.2.1
abbrev cr_zL (w : cr_Wd) : Nat := w.2.2.2.2.2.2.2.2.2.1
abbrev cr_zx (w : cr_Wd) : Nat → Int32 := w.2.2.2.2.2.2.2.2.2.2
abbrev cr_iv (w : cr_Wd) (k a : Nat) : Prop := 159 ≤ a ∧ a < cr_zn w ∧ cr_zl w a = k
abbrev cr_il (w : cr_Wd) (a : Nat) : Prop := a < 159 ∨ a < cr_zn w
def cr_zr (V : cr_Hp) (a : Nat) : cr_Hp := fun b => if b = a then (fun _ => 0) else V b
def cr_row (w : cr_Wd) (a : Nat) (r : Nat → Int32) : va_E :=
  if a < 152 then
    if a % 19 = 0 then .inr (3, [.ref (w.1 (a + 1)), .ref (w.1 (a + 2)), .int (r 2), .int (r 3), .int (r 4), .int (r 5), .int (r 6), .int (r 7), .int (r 8), .int (r 9)])
    else if a % 19 = 1 then .inl (w.2.1 2, 12, .inr (.inr (.inr (.inr (fun j => some (w.1 (a + 2 + j)))))))
    else if a % 19 = 2 then .inl (w.2.1 3, 4, .inr (.inr (.inr (.inr (fun j => some (w.1 (a + 13 + j)))))))
    else if a % 19 < 15 then .inr (2, [.int (r 0), .int (r 1), .int (r 2), .int (r 3), .int (r 4), .int (r 5), .int (r 6), .int (r 7), .int (r 8)])
    else .inr (4, [.int (r 0), .int (r 1), .int (r 2)])
  else if a = 152 then .inr (7, [.ref (w.1 0), .ref (w.1 19), .ref (w.1 153), .ref (w.1 154), .ref (w.1 156)])
  else if a = 153 then .inr (5, [.int (r 0), .int (r 1), .int (r 2), .int (r 3), .int (r 4), .int (r 5), .int (r 6), .int (r 7), .int (r 8), .int (r 9)])
  else if a = 154 then .inr (0, [.ref (w.1 155), .int (r 1), .int (r 2)])
  else if a = 155 then .inl (w.2.1 4, 6, .inr (.inr (.inr (.inr (fun j => some (w.1 (38 + 19 * j)))))))
  else if a = 156 then .inr (1, [.ref (w.1 157), .int (r 1), .int (r 2), .int (r 3), .int (r 4), .int (r 5), .int (r 6), .int (r 7), .int (r 8)])
  else if a = 157 then .inr (6, [.ref (w.1 158), .int (r 1)])
  else if a = 158 then .inl (w.2.1 1, 80, .inl r)
  else .inl (w.2.1 0, cr_zl w a, .inl r)
theorem cr_row_pg (w : cr_Wd) {a : Nat} (h : cr_pg a) (r : Nat → Int32) : cr_row w a r = .inr (3, [.ref (w.1 (a + 1)), .ref (w.1 (a + 2)), .int (r 2), .int (r 3), .int (r 4), .int (r 5), .int (r 6), .int (r 7), .int (r 8), .int (r 9)]) := by
  unfold cr_row; rw [if_pos h.1, if_pos h.2]
theorem cr_row_ms (w : cr_Wd) {a : Nat} (h : cr_ms a) (r : Nat → Int32) : cr_row w a r = .inl (w.2.1 2, 12, .inr (.inr (.inr (.inr (fun j => some (w.1 (a + 2 + j))))))) := by
  unfold cr_row; rw [if_pos h.1, if_neg (by omega), if_pos h.2]
theorem cr_row_rs (w : cr_Wd) {a : Nat} (h : cr_rs a) (r : Nat → Int32) : cr_row w a r = .inl (w.2.1 3, 4, .inr (.inr (.inr (.inr (fun j => some (w.1 (a + 13 + j))))))) := by
  unfold cr_row; rw [if_pos h.1, if_neg (by omega), if_neg (by omega), if_pos h.2]
theorem cr_row_ma (w : cr_Wd) {a : Nat} (h : cr_ma a) (r : Nat → Int32) : cr_row w a r = .inr (2, [.int (r 0), .int (r 1), .int (r 2), .int (r 3), .int (r 4), .int (r 5), .int (r 6), .int (r 7), .int (r 8)]) := by
  unfold cr_row; rw [if_pos h.1, if_neg (by omega), if_neg (by omega), if_neg (by omega), if_pos h.2.2]
theorem cr_row_rg (w : cr_Wd) {a : Nat} (h : cr_rg a) (r : Nat → Int32) : cr_row w a r = .inr (4, [.int (r 0), .int (r 1), .int (r 2)]) := by
  unfold cr_row; rw [if_pos h.1, if_neg (by omega), if_neg (by omega), if_neg (by omega), if_neg (by omega)]
theorem cr_row_152 (w : cr_Wd) (r : Nat → Int32) : cr_row w 152 r = .inr (7, [.ref (w.1 0), .ref (w.1 19), .ref (w.1 153), .ref (w.1 154), .ref (w.1 156)]) := rfl
theorem cr_row_153 (w : cr_Wd) (r : Nat → Int32) : cr_row w 153 r = .inr (5, [.int (r 0), .int (r 1), .int (r 2), .int (r 3), .int (r 4), .int (r 5), .int (r 6), .int (r 7), .int (r 8), .int (r 9)]) := rfl
theorem cr_row_154 (w : cr_Wd) (r : Nat → Int32) : cr_row w 154 r = .inr (0, [.ref (w.1 155), .int (r 1), .int (r 2)]) := rfl
theorem cr_row_155 (w : cr_Wd) (r : Nat → Int32) : cr_row w 155 r = .inl (w.2.1 4, 6, .inr (.inr (.inr (.inr (fun j => some (w.1 (38 + 19 * j))))))) := rfl
theorem cr_row_156 (w : cr_Wd) (r : Nat → Int32) : cr_row w 156 r = .inr (1, [.ref (w.1 157), .int (r 1), .int (r 2), .int (r 3), .int (r 4), .int (r 5), .int (r 6), .int (r 7), .int (r 8)]) := rfl
theorem cr_row_157 (w : cr_Wd) (r : Nat → Int32) : cr_row w 157 r = .inr (6, [.ref (w.1 158), .int (r 1)]) := rfl
theorem cr_row_158 (w : cr_Wd) (r : Nat → Int32) : cr_row w 158 r = .inl (w.2.1 1, 80, .inl r) := rfl
theorem cr_row_big (w : cr_Wd) {a : Nat} (h1 : 159 ≤ a) (r : Nat → Int32) : cr_row w a r = .inl (w.2.1 0, cr_zl w a, .inl r) := by
  unfold cr_row
  rw [if_neg (by omega), if_neg (by omega), if_neg (by omega), if_neg (by omega), if_neg (by omega), if_neg (by omega), if_neg (by omega), if_neg (by omega)]
theorem cr_row_iv {w : cr_Wd} {k a : Nat} (h : cr_iv w k a) (r : Nat → Int32) : cr_row w a r = .inl (w.2.1 0, k, .inl r) := by
  rw [cr_row_big w h.1, h.2.2]
def cr_ws (w : cr_Wd) (V : cr_Hp) : va_W := (List.range (cr_zn w)).map (fun a => (w.1 a, cr_row w a (V a)))
theorem cr_get (w : cr_Wd) (V : cr_Hp) {a : Nat} (h : a < cr_zn w) {e : va_E} (he : cr_row w a (V a) = e) : (cr_ws w V)[a]? = some (w.1 a, e) := by
  subst he
  simp [cr_ws, h]
theorem cr_set (w : cr_Wd) (V : cr_Hp) {a k : Nat} {x : Int32} (h : a < cr_zn w) {e : va_E} (he : cr_row w a (upd (V a) k x) = e) : (cr_ws w V).set a (w.1 a, e) = cr_ws w (cr_pt V a k x) := by
  subst he
  apply List.ext_getElem?
  intro i
  by_cases hi : i < cr_zn w
  · by_cases hia : a = i
    · subst hia
      rw [List.getElem?_set_self (by simpa [cr_ws] using h)]
      exact (cr_get w (cr_pt V a k x) h (by rw [cr_pt_eq])).symm
    · rw [List.getElem?_set_ne hia]
      rw [cr_get w V hi rfl, cr_get w (cr_pt V a k x) hi (by rw [cr_pt_ne (Ne.symm hia)])]
  · rw [List.getElem?_eq_none (by simp [cr_ws]; omega), List.getElem?_eq_none (by simp [cr_ws]; omega)]
/-- the cells' addresses -/
def cr_A (w : cr_Wd) : Nat → Prop := fun q => cr_z0 w ≤ q
def cr_inj (w : cr_Wd) : Prop := (∀ a b : Nat, a < cr_zn w → b < cr_zn w → w.1 a = w.1 b → a = b) ∧ 159 ≤ cr_zn w ∧ ∀ a : Nat, a < cr_zn w → cr_z0 w ≤ w.1 a
theorem cr_D {w : cr_Wd} (h : cr_inj w) (V : cr_Hp) : va_D (cr_A w) (cr_ws w V) := by
  have key : ∀ (i : Nat) (q : Nat × va_E), (cr_ws w V)[i]? = some q → i < cr_zn w ∧ q.1 = w.1 i := by
    intro i q hq
    have hi : i < cr_zn w := by
      have := (List.getElem?_eq_some_iff.mp hq).1
      simpa [cr_ws] using this
    rw [cr_get w V hi rfl] at hq
    cases hq
    exact ⟨hi, rfl⟩
  refine ⟨fun i j x y hi hj hxy => ?_, fun k q hk => by rw [(key k q hk).2]; exact h.2.2 k (key k q hk).1⟩
  have h1 := key i x hi
  have h2 := key j y hj
  exact h.1 i j h1.1 h2.1 (h1.2.symm.trans (hxy.trans h2.2))
def cr_tys (w : cr_Wd) : List (ClassId × FieldType) := [(w.2.1 0, .int), (w.2.1 1, .char), (w.2.1 2, .object "ChalkRings$Marble"), (w.2.1 3, .object "ChalkRings$Ring"), (w.2.1 4, .object "ChalkRings$Playground")]
def cr_sx (j : Nat) : Int32 := ([0, 1, 1, 1, 0, -1, -1, -1] : List Int32).getD j 0
def cr_sy (j : Nat) : Int32 := ([-1, -1, 0, 1, 1, 1, 0, -1] : List Int32).getD j 0
def cr_nest : List Cond := [.methodLinkNest "ChalkRings" 21 ⟨"ChalkRings$Roll", "<init>", "()V"⟩ "ChalkRings", .methodLinkNest "ChalkRings$Playground" 105 ⟨"ChalkRings", "stepX", "(I)I"⟩ "ChalkRings", .methodLinkNest "ChalkRings$Playground" 109 ⟨"ChalkRings", "stepY", "(I)I"⟩ "ChalkRings", .methodLinkNest "ChalkRings$Playground" 26 ⟨"ChalkRings$Ring", "<init>", "()V"⟩ "ChalkRings", .methodLinkNest "ChalkRings$Playground" 69 ⟨"ChalkRings", "isPoint", "(II)Z"⟩ "ChalkRings", .methodLinkNest "ChalkRings$Playground" 73 ⟨"ChalkRings", "isPlayer", "(I)Z"⟩ "ChalkRings", .methodLinkNest "ChalkRings$Roll" 27 ⟨"ChalkRings", "stepX", "(I)I"⟩ "ChalkRings", .methodLinkNest "ChalkRings$Roll" 34 ⟨"ChalkRings", "stepY", "(I)I"⟩ "ChalkRings", .fieldLinkNest "ChalkRings$Playground" 101 "ChalkRings" "STEP_X" "[I" "ChalkRings"]
theorem cr_nest_warm {s U : State} (hW : s.WarmedH U.vm) (h : ∀ x ∈ cr_nest, va_Nw x s) : ∀ x ∈ cr_nest, va_Nw x U := by
  intro x hx
  have h1 := h x hx
  simp only [cr_nest, List.mem_cons, List.not_mem_nil, or_false] at hx
  rcases hx with rfl | rfl | rfl | rfl | rfl | rfl | rfl | rfl | rfl <;> first | exact va_Nw.warmM hW h1 | exact va_Nw.warmF hW h1
/-- what of the machine every method needs -/
def cr_Ev (w : cr_Wd) (U : State) (H : Heap) : Prop := va_K w.2.2.1 vwCl (cr_tys w) U ∧ (∀ x ∈ cr_nest, va_Nw x U) ∧ (va_Z "ChalkRings" "STEP_X" "[I" (.ref w.2.2.2.1) (cr_A w) U H ∧ va_T .int w.2.2.2.1 8 (fun j => .int (cr_sx j)) (cr_A w) U H) ∧ (va_Z "ChalkRings" "STEP_Y" "[I" (.ref w.2.2.2.2.1) (cr_A w) U H ∧ va_T .int w.2.2.2.2.1 8 (fun j => .int (cr_sy j)) (cr_A w) U H) ∧ va_T .int (cr_zb w) (cr_zL w) (fun j => .int (cr_zx w j)) (cr_A w) U H ∧ cr_z0 w ≤ H.size
theorem cr_Ev.warm {w : cr_Wd} {s U : State} {H : Heap} (hW : s.WarmedH U.vm) (h : cr_Ev w s H) : cr_Ev w U H := ⟨va_K.moved hW.alike h.1, cr_nest_warm hW h.2.1, ⟨va_Z.moved hW.alike h.2.2.1.1, va_T.moved hW.alike h.2.2.1.2⟩, ⟨va_Z.moved hW.alike h.2.2.2.1.1, va_T.moved hW.alike h.2.2.2.1.2⟩, va_T.moved hW.alike h.2.2.2.2.1, h.2.2.2.2.2⟩
theorem cr_Ev.kept {w : cr_Wd} {s : State} {H H1 : Heap} (h : cr_Ev w s H) (hz : H.size ≤ H1.size) (hq : ∀ a : Nat, a < H.size → ¬ cr_A w a → H1[a]? = H[a]?) : cr_Ev w s H1 := ⟨h.1, h.2.1, ⟨va_Z.kept h.2.2.1.1 hq, va_T.kept h.2.2.1.2 hq⟩, ⟨va_Z.kept h.2.2.2.1.1 hq, va_T.kept h.2.2.2.1.2 hq⟩, va_T.kept h.2.2.2.2.1 hq, Nat.le_trans h.2.2.2.2.2 hz⟩
def cr_Pc (w : cr_Wd) (V : cr_Hp) (av : List Value) : Array Value → State → Prop := va_Pc av (fun U => va_P w.2.2.1 vwCl (cr_ws w V) U.heap ∧ cr_Ev w U U.heap ∧ cr_inj w)
theorem cr_blind {w : cr_Wd} {V : cr_Hp} {av : List Value} : FrameBlind (cr_Pc w V av) := by
  intro a U g mk h
  exact ⟨h.1, h.2.1, cr_Ev.warm (s := U) (U := U.calling g mk a) (State.WarmedH.refl _) h.2.2.1, h.2.2.2⟩
def cr_Qi (w : cr_Wd) (V : cr_Hp) (r : Int32) : Array Value → State → Outcome → State → Prop := va_Qi (fun (x : Int32) (_ : Unit) => x = r) (fun _ t => va_P w.2.2.1 vwCl (cr_ws w V) t.heap) (cr_A w)
def cr_Ql (w : cr_Wd) (V : cr_Hp) (r : Int64) : Array Value → State → Outcome → State → Prop := va_Ql (fun (x : Int64) (_ : Unit) => x = r) (fun _ t => va_P w.2.2.1 vwCl (cr_ws w V) t.heap) (cr_A w)
def cr_Qv (w : cr_Wd) (V : cr_Hp) : Array Value → State → Outcome → State → Prop := va_Qv (fun (_ : Unit) => True) (fun _ t => va_P w.2.2.1 vwCl (cr_ws w V) t.heap) (cr_A w)
def cr_Qe (w : cr_Wd) (V : cr_Hp) (r : Option Nat) : Array Value → State → Outcome → State → Prop := va_Qe w.1 (fun (x : Option Nat) (_ : Unit) => x = r) (fun _ t => va_P w.2.2.1 vwCl (cr_ws w V) t.heap) (cr_A w)
/-- the words of a method: its code, and all of the law's -/
abbrev cr_wds (y : MethodName) (cc : ByteArray) (nL : Nat) (ret : Option FieldType) : List Cond := Cond.code y cc nL ret :: cr_W

def cr_it {S R : Type} (f : S → Option (S ⊕ R)) : Nat → S → Option R
  | 0, _ => none
  | n + 1, s => match f s with
    | none => none
    | some (.inl s') => cr_it f n s'
    | some (.inr r) => some r
def cr_FU : Nat := 100000
theorem cr_it_W {S R : Type} {f : S → Option (S ⊕ R)} {P : S → Prop} {K : R → Prop} (hs : ∀ s x, f s = some x → (∀ s', x = .inl s' → P s') → (∀ r, x = .inr r → K r) → P s) : ∀ (n : Nat) (s : S) (r : R), cr_it f n s = some r → K r → P s
  | 0, s, r, h, _ => by cases h
  | n + 1, s, r, h, hk => by
    unfold cr_it at h
    cases hf : f s with
    | none => rw [hf] at h; cases h
    | some x =>
      cases x with
      | inl s' =>
        rw [hf] at h
        refine hs s _ hf (fun s'' e => ?_) (fun r' e => by cases e)
        cases e
        exact cr_it_W hs n s' r h hk
      | inr r' =>
        rw [hf] at h
        refine hs s _ hf (fun s'' e => by cases e) (fun r'' e => ?_)
        cases e
        cases h
        exact hk
def cr_lt {α β : Type} (e : α) (g : α → Option β) : Option β := g e
theorem cr_lt_s {α β : Type} {e : α} {g : α → Option β} {x : β} (h : cr_lt e g = some x) : ∃ y, y = e ∧ g y = some x := ⟨e, rfl, h⟩
def cr_gd {β : Type} (c : Prop) [Decidable c] (o : Option β) : Option β := if c then o else none
theorem cr_gd_s {β : Type} {c : Prop} [Decidable c] {o : Option β} {x : β} (h : cr_gd c o = some x) : c ∧ o = some x := by
  unfold cr_gd at h
  by_cases hc : c
  · rw [if_pos hc] at h; exact ⟨hc, h⟩
  · rw [if_neg hc] at h; cases h
def cr_bd {α β : Type} (o : Option α) (g : α → Option β) : Option β := match o with | none => none | some a => g a
theorem cr_bd_s {α β : Type} {o : Option α} {g : α → Option β} {x : β} (h : cr_bd o g = some x) : ∃ y, o = some y ∧ g y = some x := by
  cases o with
  | none => cases h
  | some a => exact ⟨a, rfl, h⟩
def cr_b2 {α β : Type} (o : Option (α × cr_Hp)) (g : α → cr_Hp → Option β) : Option β := match o with | none => none | some q => g q.1 q.2
theorem cr_b2_s {α β : Type} {o : Option (α × cr_Hp)} {g : α → cr_Hp → Option β} {x : β} (h : cr_b2 o g = some x) : ∃ y V, o = some (y, V) ∧ g y V = some x := by
  cases o with
  | none => cases h
  | some a => exact ⟨a.1, a.2, rfl, h⟩
def cr_on {β : Type} (r : Option Nat) (A : Option β) (B : Nat → Option β) : Option β := match r with | none => A | some a => B a
theorem cr_if_t {β : Type} {c : Prop} [Decidable c] {A B : Option β} {x : β} (hc : c) (h : (if c then A else B) = some x) : A = some x := by rw [if_pos hc] at h; exact h
theorem cr_if_f {β : Type} {c : Prop} [Decidable c] {A B : Option β} {x : β} (hc : ¬ c) (h : (if c then A else B) = some x) : B = some x := by rw [if_neg hc] at h; exact h
theorem cr_on_n {β : Type} {A : Option β} {B : Nat → Option β} {x : β} (h : cr_on none A B = some x) : A = some x := h
theorem cr_on_s {β : Type} {A : Option β} {B : Nat → Option β} {a : Nat} {x : β} (h : cr_on (some a) A B = some x) : B a = some x := h
abbrev cr_ix (i : Int32) (n : Nat) : Prop := ¬ (i < 0 ∨ n ≤ i.toNatClampNeg)
theorem cr_ix_lt {i : Int32} {n : Nat} (h : cr_ix i n) : i.toNatClampNeg < n := Nat.not_le.mp fun q => h (Or.inr q)
abbrev cr_bo (x : Int32) : Prop := x = 0 ∨ x = 1
theorem cr_pg_ms {a : Nat} (h : cr_pg a) : cr_ms (a + 1) := by constructor <;> omega
theorem cr_pg_rs {a : Nat} (h : cr_pg a) : cr_rs (a + 2) := by constructor <;> omega
theorem cr_ms_ma {a j : Nat} (h : cr_ms a) (hj : j < 12) : cr_ma (a + 2 + j) := by refine ⟨?_, ?_, ?_⟩ <;> omega
theorem cr_rs_rg {a j : Nat} (h : cr_rs a) (hj : j < 4) : cr_rg (a + 13 + j) := by constructor <;> omega
theorem cr_sv_pg {j : Nat} (hj : j < 6) : cr_pg (38 + 19 * j) := by constructor <;> omega
theorem cr_l_pg {w : cr_Wd} {a : Nat} (h : cr_pg a) : cr_il w a := Or.inl (by omega)
theorem cr_l_ms {w : cr_Wd} {a : Nat} (h : cr_ms a) : cr_il w a := Or.inl (by omega)
theorem cr_l_rs {w : cr_Wd} {a : Nat} (h : cr_rs a) : cr_il w a := Or.inl (by omega)
theorem cr_l_ma {w : cr_Wd} {a : Nat} (h : cr_ma a) : cr_il w a := Or.inl (by omega)
theorem cr_l_rg {w : cr_Wd} {a : Nat} (h : cr_rg a) : cr_il w a := Or.inl (by omega)

