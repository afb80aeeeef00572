/-! the lifted functions: plain rows -/
theorem cr_bd_e {α β : Type} {o : Option α} {a : α} {g : α → Option β} (h : o = some a) : cr_bd o g = g a := by subst h; rfl
theorem cr_bd_some {α β : Type} {a : α} {g : α → Option β} : cr_bd (some a) g = g a := rfl
theorem cr_b2_e {α β : Type} {o : Option (α × cr_Hp)} {a : α} {V : cr_Hp} {g : α → cr_Hp → Option β} (h : o = some (a, V)) : cr_b2 o g = g a V := by subst h; rfl
theorem cr_b2_some {α β : Type} {a : α} {V : cr_Hp} {g : α → cr_Hp → Option β} : cr_b2 (some (a, V)) g = g a V := rfl
theorem cr_gd_e {β : Type} {c : Prop} [Decidable c] {o : Option β} (h : c) : cr_gd c o = o := if_pos h
theorem cr_lt_e {α β : Type} {e : α} {g : α → Option β} : cr_lt e g = g e := rfl
theorem cr_on_0 {β : Type} {A : Option β} {B : Nat → Option β} : cr_on none A B = A := rfl
theorem cr_on_1 {β : Type} {A : Option β} {B : Nat → Option β} {a : Nat} : cr_on (some a) A B = B a := rfl
theorem cr_sm_l {a b c : Type} {f : a → Option c} {g : b → Option c} {x : a} : cr_sm f g (.inl x) = f x := rfl
theorem cr_sm_r {a b c : Type} {f : a → Option c} {g : b → Option c} {x : b} : cr_sm f g (.inr x) = g x := rfl
theorem cr_ix_nI {i n : Nat} (h : i < n) (hn : n < 2 ^ 31) : cr_ix (nI i) n := vp_in_nI h hn
/-- a loop by its states -/
theorem cr_it_go {S R : Type} {f : S → Option (S ⊕ R)} {st : Nat → S} {r : R} : ∀ (d i fuel : Nat), (∀ j, i ≤ j → j < i + d → f (st j) = some (.inl (st (j + 1)))) → f (st (i + d)) = some (.inr r) → d < fuel → cr_it f fuel (st i) = some r
  | 0, i, 0, _, _, hf => by omega
  | 0, i, fuel + 1, _, he, _ => by
    unfold cr_it
    rw [Nat.add_zero] at he
    rw [he]
  | d + 1, i, 0, _, _, hf => by omega
  | d + 1, i, fuel + 1, h, he, hf => by
    unfold cr_it
    rw [h i (Nat.le_refl _) (by omega)]
    exact cr_it_go d (i + 1) fuel (fun j h1 h2 => h j (by omega) (by omega)) (by rw [show i + 1 + d = i + (d + 1) by omega]; exact he) (by omega)
theorem cr_it_for {S R : Type} {f : S → Option (S ⊕ R)} (st : Nat → S) (n : Nat) {r : R} {s0 : S} (h0 : s0 = st 0) (h : ∀ j, j < n → f (st j) = some (.inl (st (j + 1)))) (he : f (st n) = some (.inr r)) (hn : n < 100000) : cr_it f cr_FU s0 = some r := by
  subst h0
  exact cr_it_go n 0 cr_FU (fun j _ h2 => h j (by omega)) (by rw [Nat.zero_add]; exact he) hn
theorem cr_it_from {S R : Type} {f : S → Option (S ⊕ R)} (st : Nat → S) (i n : Nat) {r : R} {s0 : S} (h0 : s0 = st i) (hi : i ≤ n) (h : ∀ j, i ≤ j → j < n → f (st j) = some (.inl (st (j + 1)))) (he : f (st n) = some (.inr r)) (hn : n < 100000) : cr_it f cr_FU s0 = some r := by
  subst h0
  refine cr_it_go (n - i) i cr_FU (fun j h1 h2 => h j h1 (by omega)) ?_ (show n - i < 100000 by omega)
  rw [show i + (n - i) = n by omega]; exact he
theorem cr_le_nI {a b : Nat} (ha : a < 2 ^ 31) (hb : b < 2 ^ 31) : (nI a ≤ nI b) = (a ≤ b) := propext (nI_leI ha hb)
theorem cr_lt_nI {a b : Nat} (ha : a < 2 ^ 31) (hb : b < 2 ^ 31) : (nI a < nI b) = (a < b) := propext (nI_ltI ha hb)
theorem cr_eq_nI {a b : Nat} (ha : a < 2 ^ 31) (hb : b < 2 ^ 31) : (nI a = nI b) = (a = b) := propext (nI_eq ha hb)
theorem cr_any_lt (x : Int32) {n : Nat} (hn : n < 2 ^ 31) : (x < 0 ∨ nI n ≤ x) ∨ ∃ j, j < n ∧ x = nI j := by
  rcases pk_ix x hn with h | h | h
  · exact Or.inl (Or.inl h)
  · exact Or.inl (Or.inr h)
  · exact Or.inr h
theorem cr_nn {n : Nat} (h : n < 2 ^ 31) : ¬ nI n < 0 := nI_pos h
theorem cr_L0 : (0 : Int32) = nI 0 := rfl
theorem cr_L1 : (1 : Int32) = nI 1 := rfl
theorem cr_L2 : (2 : Int32) = nI 2 := rfl
theorem cr_L3 : (3 : Int32) = nI 3 := rfl
theorem cr_L4 : (4 : Int32) = nI 4 := rfl
theorem cr_L5 : (5 : Int32) = nI 5 := rfl
theorem cr_L6 : (6 : Int32) = nI 6 := rfl
theorem cr_L7 : (7 : Int32) = nI 7 := rfl
theorem cr_L8 : (8 : Int32) = nI 8 := rfl
theorem cr_L9 : (9 : Int32) = nI 9 := rfl
theorem cr_L10 : (10 : Int32) = nI 10 := rfl
theorem cr_L11 : (11 : Int32) = nI 11 := rfl
theorem cr_L12 : (12 : Int32) = nI 12 := rfl
theorem cr_L13 : (13 : Int32) = nI 13 := rfl
theorem cr_L14 : (14 : Int32) = nI 14 := rfl
theorem cr_L15 : (15 : Int32) = nI 15 := rfl
theorem cr_L30 : (30 : Int32) = nI 30 := rfl
theorem cr_L31 : (31 : Int32) = nI 31 := rfl
theorem cr_L33 : (33 : Int32) = nI 33 := rfl
theorem cr_L40 : (40 : Int32) = nI 40 := rfl
theorem cr_L48 : (48 : Int32) = nI 48 := rfl
theorem cr_L57 : (57 : Int32) = nI 57 := rfl
theorem cr_L60 : (60 : Int32) = nI 60 := rfl
theorem cr_L68 : (68 : Int32) = nI 68 := rfl
theorem cr_L80 : (80 : Int32) = nI 80 := rfl
theorem cr_L100 : (100 : Int32) = nI 100 := rfl
theorem cr_L126 : (126 : Int32) = nI 126 := rfl
theorem cr_L400 : (400 : Int32) = nI 400 := rfl
theorem cr_L44 : (44 : Int32) = nI 44 := rfl
theorem cr_L58 : (58 : Int32) = nI 58 := rfl
theorem cr_L59 : (59 : Int32) = nI 59 := rfl
theorem cr_L109 : (109 : Int32) = nI 109 := rfl
theorem cr_L112 : (112 : Int32) = nI 112 := rfl
theorem cr_L114 : (114 : Int32) = nI 114 := rfl
theorem cr_L115 : (115 : Int32) = nI 115 := rfl
theorem cr_G0 {β : Type} {o : Option β} : cr_gd (cr_ix (0 : Int32) 80) o = o := cr_gd_e (by decide)
theorem cr_T0 : (0 : Int32).toNatClampNeg = 0 := by decide
theorem cr_G1 {β : Type} {o : Option β} : cr_gd (cr_ix (1 : Int32) 80) o = o := cr_gd_e (by decide)
theorem cr_T1 : (1 : Int32).toNatClampNeg = 1 := by decide
theorem cr_G2 {β : Type} {o : Option β} : cr_gd (cr_ix (2 : Int32) 80) o = o := cr_gd_e (by decide)
theorem cr_T2 : (2 : Int32).toNatClampNeg = 2 := by decide
theorem cr_G3 {β : Type} {o : Option β} : cr_gd (cr_ix (3 : Int32) 80) o = o := cr_gd_e (by decide)
theorem cr_T3 : (3 : Int32).toNatClampNeg = 3 := by decide
theorem cr_G4 {β : Type} {o : Option β} : cr_gd (cr_ix (4 : Int32) 80) o = o := cr_gd_e (by decide)
theorem cr_T4 : (4 : Int32).toNatClampNeg = 4 := by decide
theorem cr_G5 {β : Type} {o : Option β} : cr_gd (cr_ix (5 : Int32) 80) o = o := cr_gd_e (by decide)
theorem cr_T5 : (5 : Int32).toNatClampNeg = 5 := by decide
theorem cr_G6 {β : Type} {o : Option β} : cr_gd (cr_ix (6 : Int32) 80) o = o := cr_gd_e (by decide)
theorem cr_T6 : (6 : Int32).toNatClampNeg = 6 := by decide
theorem cr_G7 {β : Type} {o : Option β} : cr_gd (cr_ix (7 : Int32) 80) o = o := cr_gd_e (by decide)
theorem cr_T7 : (7 : Int32).toNatClampNeg = 7 := by decide
theorem cr_1 (i : Nat) : nI i + (1 : Int32) = nI (i + 1) := nI_1 i
theorem cr_bd_for {S R β : Type} {f : S → Option (S ⊕ R)} {g : R → Option β} {s0 : S} (st : Nat → S) (n : Nat) {r : R} (h : ∀ j, j < n → f (st j) = some (.inl (st (j + 1)))) (he : f (st n) = some (.inr r)) (hn : n < 100000) (h0 : s0 = st 0) : cr_bd (cr_it f cr_FU s0) g = g r := cr_bd_e (cr_it_for st n h0 h he hn)
