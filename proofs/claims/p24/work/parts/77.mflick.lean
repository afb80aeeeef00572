/-! a flick of the model -/
theorem sp_won_lie {k : Nat} {P : Int32} {ra : Nat → Int32} {ht : Nat → Bool} {b : Nat → Int32} {j : Nat} (h : sp_won k P ra ht b j) : cr_lie b j := h.1
