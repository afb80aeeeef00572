/-! ===== BEGIN words of one list among another's, by their places ===== -/
theorem goodIn_r {big : List Cond} (ws : List Cond) (ps : List Nat) (hp : ws = ps.filterMap (fun i => big[i]?)) (h : ws.all goodWord = true) : GoodIn big ws := by
  intro w hw
  have h1 := List.all_eq_true.mp h w hw
  rw [hp] at hw
  obtain ⟨i, -, hi⟩ := List.mem_filterMap.mp hw
  have hm : w ∈ big := by first | exact List.mem_of_getElem? hi | exact List.getElem?_mem hi
  exact ⟨hm, good_of_word h1⟩
theorem goodIn_app {big a b : List Cond} (ha : GoodIn big a) (hb : GoodIn big b) : GoodIn big (a ++ b) := fun w h => (List.mem_append.mp h).elim (ha w) (hb w)
theorem goodIn_ca {big a b : List Cond} {c : Cond} (ha : GoodIn big (c :: a)) (hb : GoodIn big b) : GoodIn big (c :: (a ++ b)) := fun w h => (List.mem_cons.mp h).elim (fun e => ha w (List.mem_cons.mpr (Or.inl e))) (fun h => (List.mem_append.mp h).elim (fun h => ha w (List.mem_cons.mpr (Or.inr h))) (hb w))
theorem goodIn_sub {big ws : List Cond} (hm : ∀ w ∈ ws, w ∈ big) (h : ws.all goodWord = true) : GoodIn big ws := fun w hw => ⟨hm w hw, good_of_word (List.all_eq_true.mp h w hw)⟩
/-! ===== END ===== -/

/-! ===== BEGIN printed: names, fields, word lists, decode rows ===== -/
def RX0 : String := "ChalkRings$History"
def TX0 : u_T := fun k => match k with
  | 0 => ("ChalkRings$History", "saved", "[LChalkRings$Playground;", true)
  | 1 => ("ChalkRings$History", "oldest", "I", false)
  | _ => ("ChalkRings$History", "depth", "I", false)
def tyX0 : Nat → FieldType := fun k => match k with
  | 0 => .array (.object "ChalkRings$Playground")
  | 1 => .int
  | _ => .int
abbrev wsX00 : List Cond := u_ws RX0 TX0 3
theorem nmX0 : ∀ a, a < 3 → ∀ b, b < 3 → a ≠ b → (TX0 a).2.1 ≠ (TX0 b).2.1 := by decide +kernel
theorem tyX0_ok : ∀ k, k < 3 → parseFieldDescriptor (TX0 k).2.2.1 = some (tyX0 k) := by decide +kernel
abbrev cX0_init : ByteArray := prog_2_method_1_code
def yX0_init : MethodName := ⟨RX0, "<init>", "()V"⟩
abbrev cX0_save : ByteArray := prog_2_method_2_code
def yX0_save : MethodName := ⟨RX0, "save", "(LChalkRings$Playground;)V"⟩
abbrev cX0_slotOf : ByteArray := prog_2_method_4_code
def yX0_slotOf : MethodName := ⟨RX0, "slotOf", "(I)LChalkRings$Playground;"⟩
def RX1 : String := "ChalkRings$ItemReader"
def TX1 : u_T := fun k => match k with
  | 0 => ("ChalkRings$ItemReader", "text", "LChalkRings$Text;", true)
  | 1 => ("ChalkRings$ItemReader", "place", "I", false)
  | 2 => ("ChalkRings$ItemReader", "failed", "Z", false)
  | 3 => ("ChalkRings$ItemReader", "isRing", "Z", false)
  | 4 => ("ChalkRings$ItemReader", "x", "I", false)
  | 5 => ("ChalkRings$ItemReader", "y", "I", false)
  | 6 => ("ChalkRings$ItemReader", "radius", "I", false)
  | 7 => ("ChalkRings$ItemReader", "size", "I", false)
  | _ => ("ChalkRings$ItemReader", "owner", "I", false)
def tyX1 : Nat → FieldType := fun k => match k with
  | 0 => .object "ChalkRings$Text"
  | 1 => .int
  | 2 => .boolean
  | 3 => .boolean
  | 4 => .int
  | 5 => .int
  | 6 => .int
  | 7 => .int
  | _ => .int
abbrev wsX10 : List Cond := u_ws RX1 TX1 9
theorem nmX1 : ∀ a, a < 9 → ∀ b, b < 9 → a ≠ b → (TX1 a).2.1 ≠ (TX1 b).2.1 := by decide +kernel
theorem tyX1_ok : ∀ k, k < 9 → parseFieldDescriptor (TX1 k).2.2.1 = some (tyX1 k) := by decide +kernel
abbrev cX1_init : ByteArray := prog_3_method_1_code
def yX1_init : MethodName := ⟨RX1, "<init>", "()V"⟩
def RX2 : String := "ChalkRings$Marble"
def TX2 : u_T := fun k => match k with
  | 0 => ("ChalkRings$Marble", "number", "I", true)
  | 1 => ("ChalkRings$Marble", "x", "I", false)
  | 2 => ("ChalkRings$Marble", "y", "I", false)
  | 3 => ("ChalkRings$Marble", "size", "I", false)
  | 4 => ("ChalkRings$Marble", "owner", "I", false)
  | 5 => ("ChalkRings$Marble", "winner", "I", false)
  | 6 => ("ChalkRings$Marble", "lies", "Z", false)
  | 7 => ("ChalkRings$Marble", "ringsAhead", "I", false)
  | _ => ("ChalkRings$Marble", "wasHit", "Z", false)
def tyX2 : Nat → FieldType := fun k => match k with
  | 0 => .int
  | 1 => .int
  | 2 => .int
  | 3 => .int
  | 4 => .int
  | 5 => .int
  | 6 => .boolean
  | 7 => .int
  | _ => .boolean
abbrev wsX20 : List Cond := u_ws RX2 TX2 9
theorem nmX2 : ∀ a, a < 9 → ∀ b, b < 9 → a ≠ b → (TX2 a).2.1 ≠ (TX2 b).2.1 := by decide +kernel
theorem tyX2_ok : ∀ k, k < 9 → parseFieldDescriptor (TX2 k).2.2.1 = some (tyX2 k) := by decide +kernel
abbrev cX2_init : ByteArray := prog_4_method_1_code
def yX2_init : MethodName := ⟨RX2, "<init>", "(I)V"⟩
abbrev cX2_copyFrom : ByteArray := prog_4_method_2_code
def yX2_copyFrom : MethodName := ⟨RX2, "copyFrom", "(LChalkRings$Marble;)V"⟩
def RX3 : String := "ChalkRings$Playground"
def TX3 : u_T := fun k => match k with
  | 0 => ("ChalkRings$Playground", "marbles", "[LChalkRings$Marble;", true)
  | 1 => ("ChalkRings$Playground", "rings", "[LChalkRings$Ring;", true)
  | 2 => ("ChalkRings$Playground", "placed", "I", false)
  | 3 => ("ChalkRings$Playground", "drawn", "I", false)
  | 4 => ("ChalkRings$Playground", "onMove", "I", false)
  | 5 => ("ChalkRings$Playground", "flicks", "I", false)
  | 6 => ("ChalkRings$Playground", "hits", "I", false)
  | 7 => ("ChalkRings$Playground", "won", "I", false)
  | 8 => ("ChalkRings$Playground", "grown", "I", false)
  | _ => ("ChalkRings$Playground", "walls", "I", false)
def tyX3 : Nat → FieldType := fun k => match k with
  | 0 => .array (.object "ChalkRings$Marble")
  | 1 => .array (.object "ChalkRings$Ring")
  | 2 => .int
  | 3 => .int
  | 4 => .int
  | 5 => .int
  | 6 => .int
  | 7 => .int
  | 8 => .int
  | _ => .int
abbrev wsX30 : List Cond := u_ws RX3 TX3 10
theorem nmX3 : ∀ a, a < 10 → ∀ b, b < 10 → a ≠ b → (TX3 a).2.1 ≠ (TX3 b).2.1 := by decide +kernel
theorem tyX3_ok : ∀ k, k < 10 → parseFieldDescriptor (TX3 k).2.2.1 = some (tyX3 k) := by decide +kernel
abbrev cX3_init : ByteArray := prog_5_method_1_code
def yX3_init : MethodName := ⟨RX3, "<init>", "()V"⟩
abbrev cX3_copyFrom : ByteArray := prog_5_method_2_code
def yX3_copyFrom : MethodName := ⟨RX3, "copyFrom", "(LChalkRings$Playground;)V"⟩
abbrev cX3_wipe : ByteArray := prog_5_method_3_code
def yX3_wipe : MethodName := ⟨RX3, "wipe", "()V"⟩
abbrev cX3_findMarble : ByteArray := prog_5_method_4_code
def yX3_findMarble : MethodName := ⟨RX3, "findMarble", "(I)LChalkRings$Marble;"⟩
abbrev cX3_findRing : ByteArray := prog_5_method_5_code
def yX3_findRing : MethodName := ⟨RX3, "findRing", "(I)LChalkRings$Ring;"⟩
abbrev cX3_refusalOfMarble : ByteArray := prog_5_method_6_code
def yX3_refusalOfMarble : MethodName := ⟨RX3, "refusalOfMarble", "(IIII)I"⟩
abbrev cX3_addMarble : ByteArray := prog_5_method_7_code
def yX3_addMarble : MethodName := ⟨RX3, "addMarble", "(IIII)I"⟩
abbrev cX3_refusalOfRing : ByteArray := prog_5_method_8_code
def yX3_refusalOfRing : MethodName := ⟨RX3, "refusalOfRing", "(III)I"⟩
abbrev cX3_addRing : ByteArray := prog_5_method_9_code
def yX3_addRing : MethodName := ⟨RX3, "addRing", "(III)I"⟩
abbrev cX3_nextPlayer : ByteArray := prog_5_method_10_code
def yX3_nextPlayer : MethodName := ⟨RX3, "nextPlayer", "()V"⟩
abbrev cX3_marbleOn : ByteArray := prog_5_method_11_code
def yX3_marbleOn : MethodName := ⟨RX3, "marbleOn", "(II)LChalkRings$Marble;"⟩
abbrev cX3_ringsAround : ByteArray := prog_5_method_12_code
def yX3_ringsAround : MethodName := ⟨RX3, "ringsAround", "(II)I"⟩
abbrev cX3_marblesIn : ByteArray := prog_5_method_13_code
def yX3_marblesIn : MethodName := ⟨RX3, "marblesIn", "(LChalkRings$Ring;)I"⟩
abbrev cX3_pointsOf : ByteArray := prog_5_method_14_code
def yX3_pointsOf : MethodName := ⟨RX3, "pointsOf", "(I)I"⟩
abbrev cX3_isOutAfter : ByteArray := prog_5_method_15_code
def yX3_isOutAfter : MethodName := ⟨RX3, "isOutAfter", "(LChalkRings$Marble;I)Z"⟩
abbrev cX3_markAhead : ByteArray := prog_5_method_16_code
def yX3_markAhead : MethodName := ⟨RX3, "markAhead", "()V"⟩
abbrev cX3_isWonBy : ByteArray := prog_5_method_17_code
def yX3_isWonBy : MethodName := ⟨RX3, "isWonBy", "(LChalkRings$Marble;I)Z"⟩
abbrev cX3_growRings : ByteArray := prog_5_method_18_code
def yX3_growRings : MethodName := ⟨RX3, "growRings", "(I)V"⟩
def RX4 : String := "ChalkRings$Ring"
def TX4 : u_T := fun k => match k with
  | 0 => ("ChalkRings$Ring", "x", "I", false)
  | 1 => ("ChalkRings$Ring", "y", "I", false)
  | _ => ("ChalkRings$Ring", "radius", "I", false)
def tyX4 : Nat → FieldType := fun k => match k with
  | 0 => .int
  | 1 => .int
  | _ => .int
abbrev wsX40 : List Cond := u_ws RX4 TX4 3
theorem nmX4 : ∀ a, a < 3 → ∀ b, b < 3 → a ≠ b → (TX4 a).2.1 ≠ (TX4 b).2.1 := by decide +kernel
theorem tyX4_ok : ∀ k, k < 3 → parseFieldDescriptor (TX4 k).2.2.1 = some (tyX4 k) := by decide +kernel
abbrev cX4_init : ByteArray := prog_6_method_1_code
def yX4_init : MethodName := ⟨RX4, "<init>", "()V"⟩
abbrev cX4_copyFrom : ByteArray := prog_6_method_2_code
def yX4_copyFrom : MethodName := ⟨RX4, "copyFrom", "(LChalkRings$Ring;)V"⟩
abbrev cX4_holds : ByteArray := prog_6_method_3_code
def yX4_holds : MethodName := ⟨RX4, "holds", "(II)Z"⟩
abbrev cX4_pointsInside : ByteArray := prog_6_method_4_code
def yX4_pointsInside : MethodName := ⟨RX4, "pointsInside", "()I"⟩
def RX5 : String := "ChalkRings$Roll"
def TX5 : u_T := fun k => match k with
  | 0 => ("ChalkRings$Roll", "won", "I", false)
  | 1 => ("ChalkRings$Roll", "wonSizes", "I", false)
  | 2 => ("ChalkRings$Roll", "hits", "I", false)
  | 3 => ("ChalkRings$Roll", "last", "I", false)
  | 4 => ("ChalkRings$Roll", "lastX", "I", false)
  | 5 => ("ChalkRings$Roll", "lastY", "I", false)
  | 6 => ("ChalkRings$Roll", "walls", "I", false)
  | 7 => ("ChalkRings$Roll", "strength", "I", false)
  | 8 => ("ChalkRings$Roll", "addX", "I", false)
  | _ => ("ChalkRings$Roll", "addY", "I", false)
def tyX5 : Nat → FieldType := fun k => match k with
  | 0 => .int
  | 1 => .int
  | 2 => .int
  | 3 => .int
  | 4 => .int
  | 5 => .int
  | 6 => .int
  | 7 => .int
  | 8 => .int
  | _ => .int
abbrev wsX50 : List Cond := u_ws RX5 TX5 10
theorem nmX5 : ∀ a, a < 10 → ∀ b, b < 10 → a ≠ b → (TX5 a).2.1 ≠ (TX5 b).2.1 := by decide +kernel
theorem tyX5_ok : ∀ k, k < 10 → parseFieldDescriptor (TX5 k).2.2.1 = some (tyX5 k) := by decide +kernel
abbrev cX5_init : ByteArray := prog_7_method_1_code
def yX5_init : MethodName := ⟨RX5, "<init>", "()V"⟩
abbrev cX5_play : ByteArray := prog_7_method_2_code
def yX5_play : MethodName := ⟨RX5, "play", "(LChalkRings$Playground;III)V"⟩
abbrev cX5_rollAll : ByteArray := prog_7_method_3_code
def yX5_rollAll : MethodName := ⟨RX5, "rollAll", "(LChalkRings$Playground;LChalkRings$Marble;)V"⟩
abbrev cX5_rollToHit : ByteArray := prog_7_method_4_code
def yX5_rollToHit : MethodName := ⟨RX5, "rollToHit", "(LChalkRings$Playground;LChalkRings$Marble;)LChalkRings$Marble;"⟩
abbrev cX5_turnAtWalls : ByteArray := prog_7_method_5_code
def yX5_turnAtWalls : MethodName := ⟨RX5, "turnAtWalls", "(LChalkRings$Marble;)V"⟩
abbrev cX5_passedOn : ByteArray := prog_7_method_6_code
def yX5_passedOn : MethodName := ⟨RX5, "passedOn", "(II)I"⟩
abbrev cX5_takeWinnings : ByteArray := prog_7_method_7_code
def yX5_takeWinnings : MethodName := ⟨RX5, "takeWinnings", "(LChalkRings$Playground;I)V"⟩
def RX6 : String := "ChalkRings$Text"
def TX6 : u_T := fun k => match k with
  | 0 => ("ChalkRings$Text", "signs", "[C", true)
  | _ => ("ChalkRings$Text", "length", "I", false)
def tyX6 : Nat → FieldType := fun k => match k with
  | 0 => .array .char
  | _ => .int
abbrev wsX60 : List Cond := u_ws RX6 TX6 2
theorem nmX6 : ∀ a, a < 2 → ∀ b, b < 2 → a ≠ b → (TX6 a).2.1 ≠ (TX6 b).2.1 := by decide +kernel
theorem tyX6_ok : ∀ k, k < 2 → parseFieldDescriptor (TX6 k).2.2.1 = some (tyX6 k) := by decide +kernel
abbrev cX6_init : ByteArray := prog_8_method_1_code
def yX6_init : MethodName := ⟨RX6, "<init>", "()V"⟩
def RX7 : String := "ChalkRings"
def TX7 : u_T := fun k => match k with
  | 0 => ("ChalkRings", "now", "LChalkRings$Playground;", true)
  | 1 => ("ChalkRings", "trial", "LChalkRings$Playground;", true)
  | 2 => ("ChalkRings", "roll", "LChalkRings$Roll;", true)
  | 3 => ("ChalkRings", "history", "LChalkRings$History;", true)
  | _ => ("ChalkRings", "reader", "LChalkRings$ItemReader;", true)
def tyX7 : Nat → FieldType := fun k => match k with
  | 0 => .object "ChalkRings$Playground"
  | 1 => .object "ChalkRings$Playground"
  | 2 => .object "ChalkRings$Roll"
  | 3 => .object "ChalkRings$History"
  | _ => .object "ChalkRings$ItemReader"
abbrev wsX70 : List Cond := u_ws RX7 TX7 5
theorem nmX7 : ∀ a, a < 5 → ∀ b, b < 5 → a ≠ b → (TX7 a).2.1 ≠ (TX7 b).2.1 := by decide +kernel
theorem tyX7_ok : ∀ k, k < 5 → parseFieldDescriptor (TX7 k).2.2.1 = some (tyX7 k) := by decide +kernel
abbrev cX7_init : ByteArray := prog_1_method_1_code
def yX7_init : MethodName := ⟨RX7, "<init>", "()V"⟩
abbrev cX7_putMarble : ByteArray := prog_1_method_2_code
def yX7_putMarble : MethodName := ⟨RX7, "putMarble", "(IIII)I"⟩
abbrev cX7_drawRing : ByteArray := prog_1_method_3_code
def yX7_drawRing : MethodName := ⟨RX7, "drawRing", "(III)I"⟩
abbrev cX7_move : ByteArray := prog_1_method_4_code
def yX7_move : MethodName := ⟨RX7, "move", "(III)I"⟩
abbrev cX7_clear : ByteArray := prog_1_method_5_code
def yX7_clear : MethodName := ⟨RX7, "clear", "()I"⟩
abbrev cX7_flick : ByteArray := prog_1_method_6_code
def yX7_flick : MethodName := ⟨RX7, "flick", "(III)I"⟩
abbrev cX7_pass : ByteArray := prog_1_method_7_code
def yX7_pass : MethodName := ⟨RX7, "pass", "()I"⟩
abbrev cX7_count : ByteArray := prog_1_method_8_code
def yX7_count : MethodName := ⟨RX7, "count", "(I)I"⟩
abbrev cX7_marble : ByteArray := prog_1_method_9_code
def yX7_marble : MethodName := ⟨RX7, "marble", "(II)I"⟩
abbrev cX7_ring : ByteArray := prog_1_method_10_code
def yX7_ring : MethodName := ⟨RX7, "ring", "(II)I"⟩
abbrev cX7_at : ByteArray := prog_1_method_11_code
def yX7_at : MethodName := ⟨RX7, "at", "(II)I"⟩
abbrev cX7_score : ByteArray := prog_1_method_12_code
def yX7_score : MethodName := ⟨RX7, "score", "(I)I"⟩
abbrev cX7_leader : ByteArray := prog_1_method_13_code
def yX7_leader : MethodName := ⟨RX7, "leader", "()I"⟩
abbrev cX7_ifFlicked : ByteArray := prog_1_method_14_code
def yX7_ifFlicked : MethodName := ⟨RX7, "ifFlicked", "(IIII)I"⟩
abbrev cX7_bestFlick : ByteArray := prog_1_method_15_code
def yX7_bestFlick : MethodName := ⟨RX7, "bestFlick", "(I)I"⟩
abbrev cX7_wayOut : ByteArray := prog_1_method_16_code
def yX7_wayOut : MethodName := ⟨RX7, "wayOut", "(I)I"⟩
abbrev cX7_tryFlick : ByteArray := prog_1_method_23_code
def yX7_tryFlick : MethodName := ⟨RX7, "tryFlick", "(III)V"⟩
abbrev cX7_isPoint : ByteArray := prog_1_method_26_code
def yX7_isPoint : MethodName := ⟨RX7, "isPoint", "(II)Z"⟩
abbrev cX7_isPlayer : ByteArray := prog_1_method_27_code
def yX7_isPlayer : MethodName := ⟨RX7, "isPlayer", "(I)Z"⟩
abbrev cX7_isDirection : ByteArray := prog_1_method_28_code
def yX7_isDirection : MethodName := ⟨RX7, "isDirection", "(I)Z"⟩
abbrev cX7_isStrength : ByteArray := prog_1_method_29_code
def yX7_isStrength : MethodName := ⟨RX7, "isStrength", "(I)Z"⟩
abbrev cX7_stepX : ByteArray := prog_1_method_30_code
def yX7_stepX : MethodName := ⟨RX7, "stepX", "(I)I"⟩
abbrev cX7_stepY : ByteArray := prog_1_method_31_code
def yX7_stepY : MethodName := ⟨RX7, "stepY", "(I)I"⟩
def RX8 : String := "ChalkRingsModel"
def TX8 : u_T := fun k => match k with
  | _ => ("", "", "", false)
def tyX8 : Nat → FieldType := fun k => match k with
  | _ => .int
abbrev wsX80 : List Cond := u_ws RX8 TX8 0
theorem nmX8 : ∀ a, a < 0 → ∀ b, b < 0 → a ≠ b → (TX8 a).2.1 ≠ (TX8 b).2.1 := by decide +kernel
theorem tyX8_ok : ∀ k, k < 0 → parseFieldDescriptor (TX8 k).2.2.1 = some (tyX8 k) := by decide +kernel
def RJ6 : String := "java/lang/Integer"
def TJ6 : u_T := fun k => match k with
  | _ => ("", "", "", false)
def tyJ6 : Nat → FieldType := fun k => match k with
  | _ => .int
abbrev wsJ60 : List Cond := u_ws RJ6 TJ6 0
theorem nmJ6 : ∀ a, a < 0 → ∀ b, b < 0 → a ≠ b → (TJ6 a).2.1 ≠ (TJ6 b).2.1 := by decide +kernel
theorem tyJ6_ok : ∀ k, k < 0 → parseFieldDescriptor (TJ6 k).2.2.1 = some (tyJ6 k) := by decide +kernel
abbrev cJ6_bitCount_0f7a4 : ByteArray := prog_11_method_49_code
def yJ6_bitCount_0f7a4 : MethodName := ⟨RJ6, "bitCount", "(I)I"⟩
def RJ9 : String := "java/lang/Math"
def TJ9 : u_T := fun k => match k with
  | _ => ("", "", "", false)
def tyJ9 : Nat → FieldType := fun k => match k with
  | _ => .int
abbrev wsJ90 : List Cond := u_ws RJ9 TJ9 0
theorem nmJ9 : ∀ a, a < 0 → ∀ b, b < 0 → a ≠ b → (TJ9 a).2.1 ≠ (TJ9 b).2.1 := by decide +kernel
theorem tyJ9_ok : ∀ k, k < 0 → parseFieldDescriptor (TJ9 k).2.2.1 = some (tyJ9 k) := by decide +kernel
abbrev cJ9_max_7cf53 : ByteArray := prog_12_method_65_code
def yJ9_max_7cf53 : MethodName := ⟨RJ9, "max", "(II)I"⟩
abbrev cJ9_min_7cf53 : ByteArray := prog_12_method_69_code
def yJ9_min_7cf53 : MethodName := ⟨RJ9, "min", "(II)I"⟩
def RL : String := "ChalkRingsLaw"
abbrev cL_cell : ByteArray := method_2_code
def yL_cell : MethodName := ⟨RL, "cell", "([II)I"⟩
abbrev cL_low : ByteArray := method_3_code
def yL_low : MethodName := ⟨RL, "low", "(II)I"⟩
abbrev cL_in : ByteArray := method_4_code
def yL_in : MethodName := ⟨RL, "in", "(III[I)Z"⟩
abbrev cL_rings : ByteArray := method_5_code
def yL_rings : MethodName := ⟨RL, "rings", "(II[I[I)I"⟩
abbrev cL_at : ByteArray := method_6_code
def yL_at : MethodName := ⟨RL, "at", "(II[I[I)I"⟩
abbrev cL_turn : ByteArray := method_7_code
def yL_turn : MethodName := ⟨RL, "turn", "(II)I"⟩
abbrev cL_flick : ByteArray := method_8_code
def yL_flick : MethodName := ⟨RL, "flick", "(IIII[I[I[I[I)V"⟩
abbrev cL_then : ByteArray := method_9_code
def yL_then : MethodName := ⟨RL, "then", "(IIII[I[I[I)I"⟩
abbrev cL_score : ByteArray := method_10_code
def yL_score : MethodName := ⟨RL, "score", "(I[I[I)I"⟩
abbrev cL_same : ByteArray := method_11_code
def yL_same : MethodName := ⟨RL, "same", "(LChalkRings;I[I[I[I)Z"⟩
abbrev cL_law : ByteArray := code
def yL_law : MethodName := ⟨RL, "law", "([I)Z"⟩
abbrev vwCl : List vw_C := [(RX0, TX0, 3), (RX1, TX1, 9), (RX2, TX2, 9), (RX3, TX3, 10), (RX4, TX4, 3), (RX5, TX5, 10), (RX6, TX6, 2), (RX7, TX7, 5)]


