/-! ===== BEGIN words of one list among another's, by their places ===== -/
theorem goodIn_r {big : List Cond} (ws : List Cond) (ps : List Nat) (hp : ws = ps.filterMap (fun i => big[i]?)) (h : ws.all goodWord = true) : GoodIn big ws := by
  intro w hw
  have h1 := List.all_eq_true.mp h w hw
  rw [hp] at hw
  obtain ⟨i, -, hi⟩ := List.mem_filterMap.mp hw
  have hm : w ∈ big := by first | exact List.mem_of_getElem? hi | exact List.getElem?_mem hi
  exact ⟨hm, good_of_word h1⟩
theorem goodIn_app {big a b : List Cond} (ha : GoodIn big a) (hb : GoodIn big b) : GoodIn big (a ++ b) := fun w h => (List.mem_append.mp h).elim (ha w) (hb w)
theorem goodIn_ca {big a b : List Cond} {c : Cond} (ha : GoodIn big (c :: a)) (hb : GoodIn big b) : GoodIn big (c :: (a ++ b)) := fun w h => (List.mem_cons.mp h).elim (fun e => ha w (List.mem_cons.mpr (Or.inl e))) (fun h => (List.mem_append.mp h).elim (fun h => ha w (List.mem_cons.mpr (Or.inr h))) (hb w))
theorem goodIn_sub {big ws : List Cond} (hm : ∀ w ∈ ws, w ∈ big) (h : ws.all goodWord = true) : GoodIn big ws := fun w hw => ⟨hm w hw, good_of_word (List.all_eq_true.mp h w hw)⟩
/-! ===== END ===== -/

/-! ===== BEGIN printed: names, fields, word lists, decode rows ===== -/
def RX0 : String := "TownBand$Band"
def TX0 : u_T := fun k => match k with
  | 0 => ("TownBand$Band", "kinds", "[I", true)
  | 1 => ("TownBand$Band", "weights", "[I", true)
  | 2 => ("TownBand$Band", "voices", "[I", true)
  | 3 => ("TownBand$Band", "courages", "[I", true)
  | 4 => ("TownBand$Band", "tower", "[I", true)
  | 5 => ("TownBand$Band", "bedRow", "[I", true)
  | 6 => ("TownBand$Band", "beasts", "I", false)
  | 7 => ("TownBand$Band", "robbers", "I", false)
  | 8 => ("TownBand$Band", "height", "I", false)
  | _ => ("TownBand$Band", "nerve", "I", false)
def tyX0 : Nat → FieldType := fun k => match k with
  | 0 => .array .int
  | 1 => .array .int
  | 2 => .array .int
  | 3 => .array .int
  | 4 => .array .int
  | 5 => .array .int
  | 6 => .int
  | 7 => .int
  | 8 => .int
  | _ => .int
abbrev wsX00 : List Cond := u_ws RX0 TX0 10
theorem nmX0 : ∀ a, a < 10 → ∀ b, b < 10 → a ≠ b → (TX0 a).2.1 ≠ (TX0 b).2.1 := by decide +kernel
theorem tyX0_ok : ∀ k, k < 10 → parseFieldDescriptor (TX0 k).2.2.1 = some (tyX0 k) := by decide +kernel
abbrev cX0_init : ByteArray := prog_2_method_1_code
def yX0_init : MethodName := ⟨RX0, "<init>", "()V"⟩
abbrev cX0_clear : ByteArray := prog_2_method_2_code
def yX0_clear : MethodName := ⟨RX0, "clear", "()V"⟩
abbrev cX0_copyFrom : ByteArray := prog_2_method_3_code
def yX0_copyFrom : MethodName := ⟨RX0, "copyFrom", "(LTownBand$Band;)V"⟩
abbrev cX0_hasBeast : ByteArray := prog_2_method_4_code
def yX0_hasBeast : MethodName := ⟨RX0, "hasBeast", "(I)Z"⟩
abbrev cX0_hasRobber : ByteArray := prog_2_method_5_code
def yX0_hasRobber : MethodName := ⟨RX0, "hasRobber", "(I)Z"⟩
abbrev cX0_bears : ByteArray := prog_2_method_6_code
def yX0_bears : MethodName := ⟨RX0, "bears", "(I)I"⟩
abbrev cX0_hurts : ByteArray := prog_2_method_7_code
def yX0_hurts : MethodName := ⟨RX0, "hurts", "(I)I"⟩
abbrev cX0_byKind : ByteArray := prog_2_method_8_code
def yX0_byKind : MethodName := ⟨RX0, "byKind", "(II)I"⟩
abbrev cX0_towerBits : ByteArray := prog_2_method_9_code
def yX0_towerBits : MethodName := ⟨RX0, "towerBits", "()I"⟩
abbrev cX0_stands : ByteArray := prog_2_method_10_code
def yX0_stands : MethodName := ⟨RX0, "stands", "()Z"⟩
abbrev cX0_canClimb : ByteArray := prog_2_method_11_code
def yX0_canClimb : MethodName := ⟨RX0, "canClimb", "(I)Z"⟩
abbrev cX0_carries : ByteArray := prog_2_method_12_code
def yX0_carries : MethodName := ⟨RX0, "carries", "([III)Z"⟩
abbrev cX0_noiseBy : ByteArray := prog_2_method_13_code
def yX0_noiseBy : MethodName := ⟨RX0, "noiseBy", "([II[I)I"⟩
abbrev cX0_fledBits : ByteArray := prog_2_method_14_code
def yX0_fledBits : MethodName := ⟨RX0, "fledBits", "(I)I"⟩
abbrev cX0_metOn : ByteArray := prog_2_method_15_code
def yX0_metOn : MethodName := ⟨RX0, "metOn", "([I)I"⟩
abbrev cX0_hurtBehind : ByteArray := prog_2_method_16_code
def yX0_hurtBehind : MethodName := ⟨RX0, "hurtBehind", "([II)I"⟩
def RX1 : String := "TownBand$Orders"
def TX1 : u_T := fun k => match k with
  | 0 => ("TownBand$Orders", "row", "[I", true)
  | 1 => ("TownBand$Orders", "first", "[I", true)
  | 2 => ("TownBand$Orders", "liers", "[I", true)
  | 3 => ("TownBand$Orders", "tally", "[I", true)
  | 4 => ("TownBand$Orders", "fitting", "I", false)
  | _ => ("TownBand$Orders", "worstHurt", "I", false)
def tyX1 : Nat → FieldType := fun k => match k with
  | 0 => .array .int
  | 1 => .array .int
  | 2 => .array .int
  | 3 => .array .int
  | 4 => .int
  | _ => .int
abbrev wsX10 : List Cond := u_ws RX1 TX1 6
theorem nmX1 : ∀ a, a < 6 → ∀ b, b < 6 → a ≠ b → (TX1 a).2.1 ≠ (TX1 b).2.1 := by decide +kernel
theorem tyX1_ok : ∀ k, k < 6 → parseFieldDescriptor (TX1 k).2.2.1 = some (tyX1 k) := by decide +kernel
abbrev cX1_init : ByteArray := prog_3_method_1_code
def yX1_init : MethodName := ⟨RX1, "<init>", "()V"⟩
abbrev cX1_seekWorst : ByteArray := prog_3_method_2_code
def yX1_seekWorst : MethodName := ⟨RX1, "seekWorst", "(LTownBand$Band;)V"⟩
abbrev cX1_seekFitting : ByteArray := prog_3_method_3_code
def yX1_seekFitting : MethodName := ⟨RX1, "seekFitting", "(LTownBand$Band;LTownBand$Seen;)V"⟩
abbrev cX1_isAsSeen : ByteArray := prog_3_method_4_code
def yX1_isAsSeen : MethodName := ⟨RX1, "isAsSeen", "(LTownBand$Band;LTownBand$Seen;)Z"⟩
abbrev cX1_enter : ByteArray := prog_3_method_5_code
def yX1_enter : MethodName := ⟨RX1, "enter", "(LTownBand$Band;)V"⟩
abbrev cX1_mostLeft : ByteArray := prog_3_method_6_code
def yX1_mostLeft : MethodName := ⟨RX1, "mostLeft", "(I)I"⟩
abbrev cX1_stepOn : ByteArray := prog_3_method_7_code
def yX1_stepOn : MethodName := ⟨RX1, "stepOn", "(I)V"⟩
def RX2 : String := "TownBand$Seen"
def TX2 : u_T := fun k => match k with
  | 0 => ("TownBand$Seen", "behind", "[I", true)
  | 1 => ("TownBand$Seen", "hurt", "[I", true)
  | _ => ("TownBand$Seen", "size", "I", false)
def tyX2 : Nat → FieldType := fun k => match k with
  | 0 => .array .int
  | 1 => .array .int
  | _ => .int
abbrev wsX20 : List Cond := u_ws RX2 TX2 3
theorem nmX2 : ∀ a, a < 3 → ∀ b, b < 3 → a ≠ b → (TX2 a).2.1 ≠ (TX2 b).2.1 := by decide +kernel
theorem tyX2_ok : ∀ k, k < 3 → parseFieldDescriptor (TX2 k).2.2.1 = some (tyX2 k) := by decide +kernel
abbrev cX2_init : ByteArray := prog_4_method_1_code
def yX2_init : MethodName := ⟨RX2, "<init>", "()V"⟩
def RX3 : String := "TownBand$Sheet"
def TX3 : u_T := fun k => match k with
  | 0 => ("TownBand$Sheet", "cells", "[I", true)
  | 1 => ("TownBand$Sheet", "lane", "I", false)
  | _ => ("TownBand$Sheet", "size", "I", false)
def tyX3 : Nat → FieldType := fun k => match k with
  | 0 => .array .int
  | 1 => .int
  | _ => .int
abbrev wsX30 : List Cond := u_ws RX3 TX3 3
theorem nmX3 : ∀ a, a < 3 → ∀ b, b < 3 → a ≠ b → (TX3 a).2.1 ≠ (TX3 b).2.1 := by decide +kernel
theorem tyX3_ok : ∀ k, k < 3 → parseFieldDescriptor (TX3 k).2.2.1 = some (tyX3 k) := by decide +kernel
abbrev cX3_init : ByteArray := prog_5_method_1_code
def yX3_init : MethodName := ⟨RX3, "<init>", "()V"⟩
abbrev cX3_renew : ByteArray := prog_5_method_2_code
def yX3_renew : MethodName := ⟨RX3, "renew", "(II)V"⟩
abbrev cX3_faultAs : ByteArray := prog_5_method_3_code
def yX3_faultAs : MethodName := ⟨RX3, "faultAs", "(II)I"⟩
abbrev cX3_faultAt : ByteArray := prog_5_method_4_code
def yX3_faultAt : MethodName := ⟨RX3, "faultAt", "(I)I"⟩
abbrev cX3_put : ByteArray := prog_5_method_5_code
def yX3_put : MethodName := ⟨RX3, "put", "(II)V"⟩
def RX4 : String := "TownBand$Tape"
def TX4 : u_T := fun k => match k with
  | 0 => ("TownBand$Tape", "bytes", "[I", true)
  | 1 => ("TownBand$Tape", "draft", "LTownBand$Band;", true)
  | 2 => ("TownBand$Tape", "length", "I", false)
  | 3 => ("TownBand$Tape", "place", "I", false)
  | 4 => ("TownBand$Tape", "token", "I", false)
  | 5 => ("TownBand$Tape", "start", "I", false)
  | 6 => ("TownBand$Tape", "number", "I", false)
  | 7 => ("TownBand$Tape", "told", "I", false)
  | 8 => ("TownBand$Tape", "bedsTold", "I", false)
  | 9 => ("TownBand$Tape", "flaw", "I", false)
  | _ => ("TownBand$Tape", "flawPlace", "I", false)
def tyX4 : Nat → FieldType := fun k => match k with
  | 0 => .array .int
  | 1 => .object "TownBand$Band"
  | 2 => .int
  | 3 => .int
  | 4 => .int
  | 5 => .int
  | 6 => .int
  | 7 => .int
  | 8 => .int
  | 9 => .int
  | _ => .int
abbrev wsX40 : List Cond := u_ws RX4 TX4 11
theorem nmX4 : ∀ a, a < 11 → ∀ b, b < 11 → a ≠ b → (TX4 a).2.1 ≠ (TX4 b).2.1 := by decide +kernel
theorem tyX4_ok : ∀ k, k < 11 → parseFieldDescriptor (TX4 k).2.2.1 = some (tyX4 k) := by decide +kernel
abbrev cX4_init : ByteArray := prog_6_method_1_code
def yX4_init : MethodName := ⟨RX4, "<init>", "()V"⟩
abbrev cX4_tellAll : ByteArray := prog_6_method_2_code
def yX4_tellAll : MethodName := ⟨RX4, "tellAll", "()I"⟩
abbrev cX4_refuse : ByteArray := prog_6_method_3_code
def yX4_refuse : MethodName := ⟨RX4, "refuse", "(II)Z"⟩
abbrev cX4_takeLine : ByteArray := prog_6_method_4_code
def yX4_takeLine : MethodName := ⟨RX4, "takeLine", "()Z"⟩
abbrev cX4_takeBeast : ByteArray := prog_6_method_5_code
def yX4_takeBeast : MethodName := ⟨RX4, "takeBeast", "(I)Z"⟩
abbrev cX4_takeRobber : ByteArray := prog_6_method_6_code
def yX4_takeRobber : MethodName := ⟨RX4, "takeRobber", "()Z"⟩
abbrev cX4_takeScout : ByteArray := prog_6_method_7_code
def yX4_takeScout : MethodName := ⟨RX4, "takeScout", "()Z"⟩
abbrev cX4_takeTower : ByteArray := prog_6_method_8_code
def yX4_takeTower : MethodName := ⟨RX4, "takeTower", "()Z"⟩
abbrev cX4_takeBeds : ByteArray := prog_6_method_9_code
def yX4_takeBeds : MethodName := ⟨RX4, "takeBeds", "()Z"⟩
abbrev cX4_isFirst : ByteArray := prog_6_method_10_code
def yX4_isFirst : MethodName := ⟨RX4, "isFirst", "(I)Z"⟩
abbrev cX4_takeRow : ByteArray := prog_6_method_11_code
def yX4_takeRow : MethodName := ⟨RX4, "takeRow", "([I)I"⟩
abbrev cX4_takeNumber : ByteArray := prog_6_method_12_code
def yX4_takeNumber : MethodName := ⟨RX4, "takeNumber", "(II)Z"⟩
abbrev cX4_numberWithin : ByteArray := prog_6_method_13_code
def yX4_numberWithin : MethodName := ⟨RX4, "numberWithin", "(II)Z"⟩
abbrev cX4_takeStop : ByteArray := prog_6_method_14_code
def yX4_takeStop : MethodName := ⟨RX4, "takeStop", "()Z"⟩
abbrev cX4_takeToken : ByteArray := prog_6_method_15_code
def yX4_takeToken : MethodName := ⟨RX4, "takeToken", "()Z"⟩
abbrev cX4_passRun : ByteArray := prog_6_method_16_code
def yX4_passRun : MethodName := ⟨RX4, "passRun", "(II)V"⟩
abbrev cX4_spellNumber : ByteArray := prog_6_method_17_code
def yX4_spellNumber : MethodName := ⟨RX4, "spellNumber", "()Z"⟩
abbrev cX4_wordRead : ByteArray := prog_6_method_18_code
def yX4_wordRead : MethodName := ⟨RX4, "wordRead", "()I"⟩
abbrev cX4_isSpelt : ByteArray := prog_6_method_19_code
def yX4_isSpelt : MethodName := ⟨RX4, "isSpelt", "(Ljava/lang/String;)Z"⟩
abbrev cX4_spelling : ByteArray := prog_6_method_20_code
def yX4_spelling : MethodName := ⟨RX4, "spelling", "(I)Ljava/lang/String;"⟩
abbrev cX4_lookAtWhole : ByteArray := prog_6_method_21_code
def yX4_lookAtWhole : MethodName := ⟨RX4, "lookAtWhole", "()V"⟩
abbrev cX4_areThere : ByteArray := prog_6_method_22_code
def yX4_areThere : MethodName := ⟨RX4, "areThere", "([II)Z"⟩
def RX5 : String := "TownBand$Towers"
def TX5 : u_T := fun k => match k with
  | 0 => ("TownBand$Towers", "row", "[I", true)
  | 1 => ("TownBand$Towers", "found", "[I", true)
  | 2 => ("TownBand$Towers", "values", "[I", true)
  | 3 => ("TownBand$Towers", "foundSize", "I", false)
  | 4 => ("TownBand$Towers", "foundScore", "I", false)
  | 5 => ("TownBand$Towers", "foundNoise", "I", false)
  | _ => ("TownBand$Towers", "total", "I", false)
def tyX5 : Nat → FieldType := fun k => match k with
  | 0 => .array .int
  | 1 => .array .int
  | 2 => .array .int
  | 3 => .int
  | 4 => .int
  | 5 => .int
  | _ => .int
abbrev wsX50 : List Cond := u_ws RX5 TX5 7
theorem nmX5 : ∀ a, a < 7 → ∀ b, b < 7 → a ≠ b → (TX5 a).2.1 ≠ (TX5 b).2.1 := by decide +kernel
theorem tyX5_ok : ∀ k, k < 7 → parseFieldDescriptor (TX5 k).2.2.1 = some (tyX5 k) := by decide +kernel
abbrev cX5_init : ByteArray := prog_7_method_1_code
def yX5_init : MethodName := ⟨RX5, "<init>", "()V"⟩
abbrev cX5_walk : ByteArray := prog_7_method_2_code
def yX5_walk : MethodName := ⟨RX5, "walk", "(LTownBand$Band;I)V"⟩
abbrev cX5_visit : ByteArray := prog_7_method_3_code
def yX5_visit : MethodName := ⟨RX5, "visit", "(LTownBand$Towers;LTownBand$Band;III)V"⟩
abbrev cX5_weigh : ByteArray := prog_7_method_4_code
def yX5_weigh : MethodName := ⟨RX5, "weigh", "(LTownBand$Band;III)V"⟩
abbrev cX5_spreadValues : ByteArray := prog_7_method_5_code
def yX5_spreadValues : MethodName := ⟨RX5, "spreadValues", "()V"⟩
abbrev cX5_foundAt : ByteArray := prog_7_method_6_code
def yX5_foundAt : MethodName := ⟨RX5, "foundAt", "(I)I"⟩
def RX6 : String := "TownBand"
def TX6 : u_T := fun k => match k with
  | 0 => ("TownBand", "band", "LTownBand$Band;", true)
  | 1 => ("TownBand", "tape", "LTownBand$Tape;", true)
  | 2 => ("TownBand", "seen", "LTownBand$Seen;", true)
  | 3 => ("TownBand", "search", "LTownBand$Towers;", true)
  | 4 => ("TownBand", "orders", "LTownBand$Orders;", true)
  | 5 => ("TownBand", "images", "[LTownBand$Band;", true)
  | 6 => ("TownBand", "kept", "[Z", true)
  | 7 => ("TownBand", "sheets", "[LTownBand$Sheet;", true)
  | 8 => ("TownBand", "throats", "[I", true)
  | _ => ("TownBand", "tear", "I", false)
def tyX6 : Nat → FieldType := fun k => match k with
  | 0 => .object "TownBand$Band"
  | 1 => .object "TownBand$Tape"
  | 2 => .object "TownBand$Seen"
  | 3 => .object "TownBand$Towers"
  | 4 => .object "TownBand$Orders"
  | 5 => .array (.object "TownBand$Band")
  | 6 => .array .boolean
  | 7 => .array (.object "TownBand$Sheet")
  | 8 => .array .int
  | _ => .int
abbrev wsX60 : List Cond := u_ws RX6 TX6 10
theorem nmX6 : ∀ a, a < 10 → ∀ b, b < 10 → a ≠ b → (TX6 a).2.1 ≠ (TX6 b).2.1 := by decide +kernel
theorem tyX6_ok : ∀ k, k < 10 → parseFieldDescriptor (TX6 k).2.2.1 = some (tyX6 k) := by decide +kernel
abbrev cX6_init : ByteArray := prog_1_method_1_code
def yX6_init : MethodName := ⟨RX6, "<init>", "()V"⟩
abbrev cX6_feed : ByteArray := prog_1_method_2_code
def yX6_feed : MethodName := ⟨RX6, "feed", "(I)I"⟩
abbrev cX6_end : ByteArray := prog_1_method_3_code
def yX6_end : MethodName := ⟨RX6, "end", "(I)I"⟩
abbrev cX6_text : ByteArray := prog_1_method_4_code
def yX6_text : MethodName := ⟨RX6, "text", "()I"⟩
abbrev cX6_fault : ByteArray := prog_1_method_5_code
def yX6_fault : MethodName := ⟨RX6, "fault", "()I"⟩
abbrev cX6_rule : ByteArray := prog_1_method_6_code
def yX6_rule : MethodName := ⟨RX6, "rule", "(I)I"⟩
abbrev cX6_beast : ByteArray := prog_1_method_7_code
def yX6_beast : MethodName := ⟨RX6, "beast", "(II)I"⟩
abbrev cX6_robber : ByteArray := prog_1_method_8_code
def yX6_robber : MethodName := ⟨RX6, "robber", "(I)I"⟩
abbrev cX6_at : ByteArray := prog_1_method_9_code
def yX6_at : MethodName := ⟨RX6, "at", "(II)I"⟩
abbrev cX6_alter : ByteArray := prog_1_method_10_code
def yX6_alter : MethodName := ⟨RX6, "alter", "(III)I"⟩
abbrev cX6_change : ByteArray := prog_1_method_11_code
def yX6_change : MethodName := ⟨RX6, "change", "([III)I"⟩
abbrev cX6_steel : ByteArray := prog_1_method_12_code
def yX6_steel : MethodName := ⟨RX6, "steel", "(II)I"⟩
abbrev cX6_scout : ByteArray := prog_1_method_13_code
def yX6_scout : MethodName := ⟨RX6, "scout", "(I)I"⟩
abbrev cX6_climb : ByteArray := prog_1_method_14_code
def yX6_climb : MethodName := ⟨RX6, "climb", "(I)I"⟩
abbrev cX6_mount : ByteArray := prog_1_method_15_code
def yX6_mount : MethodName := ⟨RX6, "mount", "(I)I"⟩
abbrev cX6_down : ByteArray := prog_1_method_16_code
def yX6_down : MethodName := ⟨RX6, "down", "(I)I"⟩
abbrev cX6_swap : ByteArray := prog_1_method_17_code
def yX6_swap : MethodName := ⟨RX6, "swap", "(II)I"⟩
abbrev cX6_noise : ByteArray := prog_1_method_18_code
def yX6_noise : MethodName := ⟨RX6, "noise", "()I"⟩
abbrev cX6_flight : ByteArray := prog_1_method_19_code
def yX6_flight : MethodName := ⟨RX6, "flight", "(I)I"⟩
abbrev cX6_free : ByteArray := prog_1_method_20_code
def yX6_free : MethodName := ⟨RX6, "free", "()I"⟩
abbrev cX6_need : ByteArray := prog_1_method_21_code
def yX6_need : MethodName := ⟨RX6, "need", "()I"⟩
abbrev cX6_best : ByteArray := prog_1_method_22_code
def yX6_best : MethodName := ⟨RX6, "best", "(I)I"⟩
abbrev cX6_few : ByteArray := prog_1_method_23_code
def yX6_few : MethodName := ⟨RX6, "few", "(I)I"⟩
abbrev cX6_loud : ByteArray := prog_1_method_24_code
def yX6_loud : MethodName := ⟨RX6, "loud", "(I)I"⟩
abbrev cX6_isPlace : ByteArray := prog_1_method_25_code
def yX6_isPlace : MethodName := ⟨RX6, "isPlace", "(I)Z"⟩
abbrev cX6_towers : ByteArray := prog_1_method_26_code
def yX6_towers : MethodName := ⟨RX6, "towers", "()I"⟩
abbrev cX6_tale : ByteArray := prog_1_method_27_code
def yX6_tale : MethodName := ⟨RX6, "tale", "(I)I"⟩
abbrev cX6_beds : ByteArray := prog_1_method_28_code
def yX6_beds : MethodName := ⟨RX6, "beds", "(I)I"⟩
abbrev cX6_brave : ByteArray := prog_1_method_29_code
def yX6_brave : MethodName := ⟨RX6, "brave", "()I"⟩
abbrev cX6_value : ByteArray := prog_1_method_30_code
def yX6_value : MethodName := ⟨RX6, "value", "(I)I"⟩
abbrev cX6_share : ByteArray := prog_1_method_31_code
def yX6_share : MethodName := ⟨RX6, "share", "(II)J"⟩
abbrev cX6_mean : ByteArray := prog_1_method_32_code
def yX6_mean : MethodName := ⟨RX6, "mean", "(II)J"⟩
abbrev cX6_luck : ByteArray := prog_1_method_33_code
def yX6_luck : MethodName := ⟨RX6, "luck", "(II)J"⟩
abbrev cX6_hoarseSum : ByteArray := prog_1_method_34_code
def yX6_hoarseSum : MethodName := ⟨RX6, "hoarseSum", "(IZ)J"⟩
abbrev cX6_silence : ByteArray := prog_1_method_35_code
def yX6_silence : MethodName := ⟨RX6, "silence", "(I)V"⟩
abbrev cX6_see : ByteArray := prog_1_method_36_code
def yX6_see : MethodName := ⟨RX6, "see", "(II)I"⟩
abbrev cX6_forget : ByteArray := prog_1_method_37_code
def yX6_forget : MethodName := ⟨RX6, "forget", "(I)I"⟩
abbrev cX6_fits : ByteArray := prog_1_method_38_code
def yX6_fits : MethodName := ⟨RX6, "fits", "(I)I"⟩
abbrev cX6_ask : ByteArray := prog_1_method_39_code
def yX6_ask : MethodName := ⟨RX6, "ask", "(I)I"⟩
abbrev cX6_drift : ByteArray := prog_1_method_40_code
def yX6_drift : MethodName := ⟨RX6, "drift", "(III)I"⟩
abbrev cX6_nextSeed : ByteArray := prog_1_method_41_code
def yX6_nextSeed : MethodName := ⟨RX6, "nextSeed", "(I)I"⟩
abbrev cX6_seedBits : ByteArray := prog_1_method_42_code
def yX6_seedBits : MethodName := ⟨RX6, "seedBits", "(I)I"⟩
abbrev cX6_keep : ByteArray := prog_1_method_43_code
def yX6_keep : MethodName := ⟨RX6, "keep", "(I)I"⟩
abbrev cX6_back : ByteArray := prog_1_method_44_code
def yX6_back : MethodName := ⟨RX6, "back", "(I)I"⟩
abbrev cX6_sheet : ByteArray := prog_1_method_45_code
def yX6_sheet : MethodName := ⟨RX6, "sheet", "(III)I"⟩
abbrev cX6_lay : ByteArray := prog_1_method_46_code
def yX6_lay : MethodName := ⟨RX6, "lay", "(III)I"⟩
abbrev cX6_read : ByteArray := prog_1_method_47_code
def yX6_read : MethodName := ⟨RX6, "read", "(IIII)I"⟩
abbrev cX6_torn : ByteArray := prog_1_method_48_code
def yX6_torn : MethodName := ⟨RX6, "torn", "()I"⟩
abbrev cX6_count : ByteArray := prog_1_method_49_code
def yX6_count : MethodName := ⟨RX6, "count", "(I)I"⟩
abbrev cX6_within : ByteArray := prog_1_method_50_code
def yX6_within : MethodName := ⟨RX6, "within", "(III)Z"⟩
abbrev cX6_placeIn : ByteArray := prog_1_method_51_code
def yX6_placeIn : MethodName := ⟨RX6, "placeIn", "([III)I"⟩
abbrev cX6_sumOf : ByteArray := prog_1_method_52_code
def yX6_sumOf : MethodName := ⟨RX6, "sumOf", "([II)I"⟩
abbrev cX6_exchange : ByteArray := prog_1_method_53_code
def yX6_exchange : MethodName := ⟨RX6, "exchange", "([III)V"⟩
abbrev cX6_fillByOrder : ByteArray := prog_1_method_54_code
def yX6_fillByOrder : MethodName := ⟨RX6, "fillByOrder", "([I)V"⟩
abbrev cX6_factorial : ByteArray := prog_1_method_55_code
def yX6_factorial : MethodName := ⟨RX6, "factorial", "(I)I"⟩
abbrev cX6_power : ByteArray := prog_1_method_56_code
def yX6_power : MethodName := ⟨RX6, "power", "(II)J"⟩
abbrev cX6_partOf : ByteArray := prog_1_method_57_code
def yX6_partOf : MethodName := ⟨RX6, "partOf", "(JJI)J"⟩
def RX7 : String := "TownBandModel"
def TX7 : u_T := fun k => match k with
  | 0 => ("TownBandModel", "state", "[I", true)
  | 1 => ("TownBandModel", "beastMany", "I", false)
  | 2 => ("TownBandModel", "robberMany", "I", false)
  | 3 => ("TownBandModel", "readPage", "[I", true)
  | 4 => ("TownBandModel", "readBeasts", "I", false)
  | 5 => ("TownBandModel", "readRobbers", "I", false)
  | 6 => ("TownBandModel", "toldOnce", "I", false)
  | 7 => ("TownBandModel", "towerTold", "I", false)
  | 8 => ("TownBandModel", "bedsTold", "I", false)
  | 9 => ("TownBandModel", "bedMany", "I", false)
  | 10 => ("TownBandModel", "tape", "[I", true)
  | 11 => ("TownBandModel", "taped", "I", false)
  | 12 => ("TownBandModel", "fault", "I", false)
  | 13 => ("TownBandModel", "broken", "I", false)
  | 14 => ("TownBandModel", "brokenAt", "I", false)
  | 15 => ("TownBandModel", "spot", "I", false)
  | 16 => ("TownBandModel", "here", "I", false)
  | 17 => ("TownBandModel", "token", "I", false)
  | 18 => ("TownBandModel", "value", "I", false)
  | 19 => ("TownBandModel", "cuts", "[I", true)
  | 20 => ("TownBandModel", "letters", "[I", true)
  | 21 => ("TownBandModel", "bestCode", "I", false)
  | 22 => ("TownBandModel", "bestSize", "I", false)
  | 23 => ("TownBandModel", "bestMany", "I", false)
  | 24 => ("TownBandModel", "bestNoise", "I", false)
  | 25 => ("TownBandModel", "towerMany", "I", false)
  | 26 => ("TownBandModel", "metMany", "I", false)
  | 27 => ("TownBandModel", "seen", "[I", true)
  | 28 => ("TownBandModel", "seenMany", "I", false)
  | 29 => ("TownBandModel", "hurtMany", "[I", true)
  | 30 => ("TownBandModel", "drawn", "I", false)
  | 31 => ("TownBandModel", "isKept", "[Z", true)
  | 32 => ("TownBandModel", "lanes", "[I", true)
  | 33 => ("TownBandModel", "lengths", "[I", true)
  | 34 => ("TownBandModel", "cells", "[I", true)
  | _ => ("TownBandModel", "torn", "I", false)
def tyX7 : Nat → FieldType := fun k => match k with
  | 0 => .array .int
  | 1 => .int
  | 2 => .int
  | 3 => .array .int
  | 4 => .int
  | 5 => .int
  | 6 => .int
  | 7 => .int
  | 8 => .int
  | 9 => .int
  | 10 => .array .int
  | 11 => .int
  | 12 => .int
  | 13 => .int
  | 14 => .int
  | 15 => .int
  | 16 => .int
  | 17 => .int
  | 18 => .int
  | 19 => .array .int
  | 20 => .array .int
  | 21 => .int
  | 22 => .int
  | 23 => .int
  | 24 => .int
  | 25 => .int
  | 26 => .int
  | 27 => .array .int
  | 28 => .int
  | 29 => .array .int
  | 30 => .int
  | 31 => .array .boolean
  | 32 => .array .int
  | 33 => .array .int
  | 34 => .array .int
  | _ => .int
abbrev wsX70 : List Cond := u_ws RX7 TX7 36
theorem nmX7 : ∀ a, a < 36 → ∀ b, b < 36 → a ≠ b → (TX7 a).2.1 ≠ (TX7 b).2.1 := by decide +kernel
theorem tyX7_ok : ∀ k, k < 36 → parseFieldDescriptor (TX7 k).2.2.1 = some (tyX7 k) := by decide +kernel
abbrev cX7_init : ByteArray := prog_9_method_1_code
def yX7_init : MethodName := ⟨RX7, "<init>", "()V"⟩
abbrev cX7_in : ByteArray := prog_9_method_3_code
def yX7_in : MethodName := ⟨RX7, "in", "(JJJ)Z"⟩
abbrev cX7_feed : ByteArray := prog_9_method_4_code
def yX7_feed : MethodName := ⟨RX7, "feed", "(I)I"⟩
abbrev cX7_end : ByteArray := prog_9_method_5_code
def yX7_end : MethodName := ⟨RX7, "end", "(I)I"⟩
abbrev cX7_byteAt : ByteArray := prog_9_method_6_code
def yX7_byteAt : MethodName := ⟨RX7, "byteAt", "(I)I"⟩
abbrev cX7_fails : ByteArray := prog_9_method_7_code
def yX7_fails : MethodName := ⟨RX7, "fails", "(I)V"⟩
abbrev cX7_nameHere : ByteArray := prog_9_method_8_code
def yX7_nameHere : MethodName := ⟨RX7, "nameHere", "()I"⟩
abbrev cX7_step : ByteArray := prog_9_method_9_code
def yX7_step : MethodName := ⟨RX7, "step", "()V"⟩
abbrev cX7_other : ByteArray := prog_9_method_10_code
def yX7_other : MethodName := ⟨RX7, "other", "(III)I"⟩
abbrev cX7_readTower : ByteArray := prog_9_method_11_code
def yX7_readTower : MethodName := ⟨RX7, "readTower", "()V"⟩
abbrev cX7_readBeds : ByteArray := prog_9_method_12_code
def yX7_readBeds : MethodName := ⟨RX7, "readBeds", "()V"⟩
abbrev cX7_readMore : ByteArray := prog_9_method_13_code
def yX7_readMore : MethodName := ⟨RX7, "readMore", "(I)V"⟩
abbrev cX7_readLine : ByteArray := prog_9_method_14_code
def yX7_readLine : MethodName := ⟨RX7, "readLine", "()V"⟩
abbrev cX7_readWhole : ByteArray := prog_9_method_15_code
def yX7_readWhole : MethodName := ⟨RX7, "readWhole", "()V"⟩
abbrev cX7_text : ByteArray := prog_9_method_16_code
def yX7_text : MethodName := ⟨RX7, "text", "()I"⟩
abbrev cX7_fault : ByteArray := prog_9_method_17_code
def yX7_fault : MethodName := ⟨RX7, "fault", "()I"⟩
abbrev cX7_isBeast : ByteArray := prog_9_method_18_code
def yX7_isBeast : MethodName := ⟨RX7, "isBeast", "(I)Z"⟩
abbrev cX7_isRobber : ByteArray := prog_9_method_19_code
def yX7_isRobber : MethodName := ⟨RX7, "isRobber", "(I)Z"⟩
abbrev cX7_byKind : ByteArray := prog_9_method_20_code
def yX7_byKind : MethodName := ⟨RX7, "byKind", "(II)I"⟩
abbrev cX7_bearsOn : ByteArray := prog_9_method_21_code
def yX7_bearsOn : MethodName := ⟨RX7, "bearsOn", "(II)I"⟩
abbrev cX7_hurts : ByteArray := prog_9_method_22_code
def yX7_hurts : MethodName := ⟨RX7, "hurts", "(I)I"⟩
abbrev cX7_standsOn : ByteArray := prog_9_method_23_code
def yX7_standsOn : MethodName := ⟨RX7, "standsOn", "(I)Z"⟩
abbrev cX7_placeOf : ByteArray := prog_9_method_24_code
def yX7_placeOf : MethodName := ⟨RX7, "placeOf", "(I)I"⟩
abbrev cX7_inTower : ByteArray := prog_9_method_25_code
def yX7_inTower : MethodName := ⟨RX7, "inTower", "()I"⟩
abbrev cX7_bedBeast : ByteArray := prog_9_method_26_code
def yX7_bedBeast : MethodName := ⟨RX7, "bedBeast", "(I)I"⟩
abbrev cX7_bedOf : ByteArray := prog_9_method_27_code
def yX7_bedOf : MethodName := ⟨RX7, "bedOf", "(I)I"⟩
abbrev cX7_rule : ByteArray := prog_9_method_28_code
def yX7_rule : MethodName := ⟨RX7, "rule", "(I)I"⟩
abbrev cX7_beast : ByteArray := prog_9_method_29_code
def yX7_beast : MethodName := ⟨RX7, "beast", "(II)I"⟩
abbrev cX7_robber : ByteArray := prog_9_method_30_code
def yX7_robber : MethodName := ⟨RX7, "robber", "(I)I"⟩
abbrev cX7_at : ByteArray := prog_9_method_31_code
def yX7_at : MethodName := ⟨RX7, "at", "(II)I"⟩
abbrev cX7_puts : ByteArray := prog_9_method_32_code
def yX7_puts : MethodName := ⟨RX7, "puts", "(ZIII)I"⟩
abbrev cX7_alter : ByteArray := prog_9_method_33_code
def yX7_alter : MethodName := ⟨RX7, "alter", "(III)I"⟩
abbrev cX7_steel : ByteArray := prog_9_method_34_code
def yX7_steel : MethodName := ⟨RX7, "steel", "(II)I"⟩
abbrev cX7_scout : ByteArray := prog_9_method_35_code
def yX7_scout : MethodName := ⟨RX7, "scout", "(I)I"⟩
abbrev cX7_climbs : ByteArray := prog_9_method_36_code
def yX7_climbs : MethodName := ⟨RX7, "climbs", "(I)I"⟩
abbrev cX7_climb : ByteArray := prog_9_method_37_code
def yX7_climb : MethodName := ⟨RX7, "climb", "(I)I"⟩
abbrev cX7_down : ByteArray := prog_9_method_38_code
def yX7_down : MethodName := ⟨RX7, "down", "(I)I"⟩
abbrev cX7_swap : ByteArray := prog_9_method_39_code
def yX7_swap : MethodName := ⟨RX7, "swap", "(II)I"⟩
abbrev cX7_noiseBy : ByteArray := prog_9_method_40_code
def yX7_noiseBy : MethodName := ⟨RX7, "noiseBy", "(I)I"⟩
abbrev cX7_noise : ByteArray := prog_9_method_41_code
def yX7_noise : MethodName := ⟨RX7, "noise", "()I"⟩
abbrev cX7_fleeBy : ByteArray := prog_9_method_42_code
def yX7_fleeBy : MethodName := ⟨RX7, "fleeBy", "(I)I"⟩
abbrev cX7_bitsOf : ByteArray := prog_9_method_43_code
def yX7_bitsOf : MethodName := ⟨RX7, "bitsOf", "(I)I"⟩
abbrev cX7_flight : ByteArray := prog_9_method_44_code
def yX7_flight : MethodName := ⟨RX7, "flight", "(I)I"⟩
abbrev cX7_free : ByteArray := prog_9_method_45_code
def yX7_free : MethodName := ⟨RX7, "free", "()I"⟩
abbrev cX7_need : ByteArray := prog_9_method_46_code
def yX7_need : MethodName := ⟨RX7, "need", "()I"⟩
abbrev cX7_copies : ByteArray := prog_9_method_47_code
def yX7_copies : MethodName := ⟨RX7, "copies", "(II)V"⟩
abbrev cX7_powerOf : ByteArray := prog_9_method_48_code
def yX7_powerOf : MethodName := ⟨RX7, "powerOf", "(I)I"⟩
abbrev cX7_figureOf : ByteArray := prog_9_method_49_code
def yX7_figureOf : MethodName := ⟨RX7, "figureOf", "(III)I"⟩
abbrev cX7_rowOf : ByteArray := prog_9_method_50_code
def yX7_rowOf : MethodName := ⟨RX7, "rowOf", "(II)I"⟩
abbrev cX7_laysTower : ByteArray := prog_9_method_51_code
def yX7_laysTower : MethodName := ⟨RX7, "laysTower", "(III)Z"⟩
abbrev cX7_allTowers : ByteArray := prog_9_method_52_code
def yX7_allTowers : MethodName := ⟨RX7, "allTowers", "(II)V"⟩
abbrev cX7_placeBy : ByteArray := prog_9_method_53_code
def yX7_placeBy : MethodName := ⟨RX7, "placeBy", "(I)I"⟩
abbrev cX7_best : ByteArray := prog_9_method_54_code
def yX7_best : MethodName := ⟨RX7, "best", "(I)I"⟩
abbrev cX7_few : ByteArray := prog_9_method_55_code
def yX7_few : MethodName := ⟨RX7, "few", "(I)I"⟩
abbrev cX7_loud : ByteArray := prog_9_method_56_code
def yX7_loud : MethodName := ⟨RX7, "loud", "(I)I"⟩
abbrev cX7_towers : ByteArray := prog_9_method_57_code
def yX7_towers : MethodName := ⟨RX7, "towers", "()I"⟩
abbrev cX7_hurtBy : ByteArray := prog_9_method_58_code
def yX7_hurtBy : MethodName := ⟨RX7, "hurtBy", "(I)I"⟩
abbrev cX7_tale : ByteArray := prog_9_method_59_code
def yX7_tale : MethodName := ⟨RX7, "tale", "(I)I"⟩
abbrev cX7_isOrder : ByteArray := prog_9_method_60_code
def yX7_isOrder : MethodName := ⟨RX7, "isOrder", "(I)Z"⟩
abbrev cX7_beds : ByteArray := prog_9_method_61_code
def yX7_beds : MethodName := ⟨RX7, "beds", "(I)I"⟩
abbrev cX7_brave : ByteArray := prog_9_method_62_code
def yX7_brave : MethodName := ⟨RX7, "brave", "()I"⟩
abbrev cX7_valueOf : ByteArray := prog_9_method_63_code
def yX7_valueOf : MethodName := ⟨RX7, "valueOf", "(I)I"⟩
abbrev cX7_value : ByteArray := prog_9_method_64_code
def yX7_value : MethodName := ⟨RX7, "value", "(I)I"⟩
abbrev cX7_lowest : ByteArray := prog_9_method_65_code
def yX7_lowest : MethodName := ⟨RX7, "lowest", "(JJI)J"⟩
abbrev cX7_ordersOf : ByteArray := prog_9_method_66_code
def yX7_ordersOf : MethodName := ⟨RX7, "ordersOf", "(I)I"⟩
abbrev cX7_share : ByteArray := prog_9_method_67_code
def yX7_share : MethodName := ⟨RX7, "share", "(II)J"⟩
abbrev cX7_byHoarse : ByteArray := prog_9_method_68_code
def yX7_byHoarse : MethodName := ⟨RX7, "byHoarse", "(IZI)J"⟩
abbrev cX7_mean : ByteArray := prog_9_method_69_code
def yX7_mean : MethodName := ⟨RX7, "mean", "(II)J"⟩
abbrev cX7_luck : ByteArray := prog_9_method_70_code
def yX7_luck : MethodName := ⟨RX7, "luck", "(II)J"⟩
abbrev cX7_see : ByteArray := prog_9_method_71_code
def yX7_see : MethodName := ⟨RX7, "see", "(II)I"⟩
abbrev cX7_forget : ByteArray := prog_9_method_72_code
def yX7_forget : MethodName := ⟨RX7, "forget", "(I)I"⟩
abbrev cX7_hurtBehind : ByteArray := prog_9_method_73_code
def yX7_hurtBehind : MethodName := ⟨RX7, "hurtBehind", "(II)I"⟩
abbrev cX7_doesFit : ByteArray := prog_9_method_74_code
def yX7_doesFit : MethodName := ⟨RX7, "doesFit", "(I)Z"⟩
abbrev cX7_fits : ByteArray := prog_9_method_75_code
def yX7_fits : MethodName := ⟨RX7, "fits", "(I)I"⟩
abbrev cX7_ask : ByteArray := prog_9_method_76_code
def yX7_ask : MethodName := ⟨RX7, "ask", "(I)I"⟩
abbrev cX7_draws : ByteArray := prog_9_method_77_code
def yX7_draws : MethodName := ⟨RX7, "draws", "(I)I"⟩
abbrev cX7_drift : ByteArray := prog_9_method_78_code
def yX7_drift : MethodName := ⟨RX7, "drift", "(III)I"⟩
abbrev cX7_keep : ByteArray := prog_9_method_79_code
def yX7_keep : MethodName := ⟨RX7, "keep", "(I)I"⟩
abbrev cX7_back : ByteArray := prog_9_method_80_code
def yX7_back : MethodName := ⟨RX7, "back", "(I)I"⟩
abbrev cX7_sheet : ByteArray := prog_9_method_81_code
def yX7_sheet : MethodName := ⟨RX7, "sheet", "(III)I"⟩
abbrev cX7_lay : ByteArray := prog_9_method_82_code
def yX7_lay : MethodName := ⟨RX7, "lay", "(III)I"⟩
abbrev cX7_read : ByteArray := prog_9_method_83_code
def yX7_read : MethodName := ⟨RX7, "read", "(IIII)I"⟩
abbrev cX7_torn : ByteArray := prog_9_method_84_code
def yX7_torn : MethodName := ⟨RX7, "torn", "()I"⟩
abbrev cX7_count : ByteArray := prog_9_method_85_code
def yX7_count : MethodName := ⟨RX7, "count", "(I)I"⟩
def RJ6 : String := "java/lang/Integer"
def TJ6 : u_T := fun k => match k with
  | _ => ("", "", "", false)
def tyJ6 : Nat → FieldType := fun k => match k with
  | _ => .int
abbrev wsJ60 : List Cond := u_ws RJ6 TJ6 0
theorem nmJ6 : ∀ a, a < 0 → ∀ b, b < 0 → a ≠ b → (TJ6 a).2.1 ≠ (TJ6 b).2.1 := by decide +kernel
theorem tyJ6_ok : ∀ k, k < 0 → parseFieldDescriptor (TJ6 k).2.2.1 = some (tyJ6 k) := by decide +kernel
abbrev cJ6_bitCount_0f7a4 : ByteArray := prog_10_method_49_code
def yJ6_bitCount_0f7a4 : MethodName := ⟨RJ6, "bitCount", "(I)I"⟩
def RJ9 : String := "java/lang/Math"
def TJ9 : u_T := fun k => match k with
  | _ => ("", "", "", false)
def tyJ9 : Nat → FieldType := fun k => match k with
  | _ => .int
abbrev wsJ90 : List Cond := u_ws RJ9 TJ9 0
theorem nmJ9 : ∀ a, a < 0 → ∀ b, b < 0 → a ≠ b → (TJ9 a).2.1 ≠ (TJ9 b).2.1 := by decide +kernel
theorem tyJ9_ok : ∀ k, k < 0 → parseFieldDescriptor (TJ9 k).2.2.1 = some (tyJ9 k) := by decide +kernel
abbrev cJ9_max_7cf53 : ByteArray := prog_11_method_65_code
def yJ9_max_7cf53 : MethodName := ⟨RJ9, "max", "(II)I"⟩
def RJ0 : String := "java/lang/String"
def TJ0 : u_T := fun k => match k with
  | _ => ("", "", "", false)
def tyJ0 : Nat → FieldType := fun k => match k with
  | _ => .int
abbrev wsJ00 : List Cond := u_ws RJ0 TJ0 0
theorem nmJ0 : ∀ a, a < 0 → ∀ b, b < 0 → a ≠ b → (TJ0 a).2.1 ≠ (TJ0 b).2.1 := by decide +kernel
theorem tyJ0_ok : ∀ k, k < 0 → parseFieldDescriptor (TJ0 k).2.2.1 = some (tyJ0 k) := by decide +kernel
abbrev cJ0_length_8abf5 : ByteArray := prog_12_method_54_code
def yJ0_length_8abf5 : MethodName := ⟨RJ0, "length", "()I"⟩
abbrev cJ0_charAt_5068e : ByteArray := prog_12_method_56_code
def yJ0_charAt_5068e : MethodName := ⟨RJ0, "charAt", "(I)C"⟩
abbrev cJ0_coder_7d493 : ByteArray := prog_12_method_152_code
def yJ0_coder_7d493 : MethodName := ⟨RJ0, "coder", "()B"⟩
abbrev cJ0_isLatin1_aae02 : ByteArray := prog_12_method_154_code
def yJ0_isLatin1_aae02 : MethodName := ⟨RJ0, "isLatin1", "()Z"⟩
abbrev cJ0_checkIndex_df160 : ByteArray := prog_12_method_155_code
def yJ0_checkIndex_df160 : MethodName := ⟨RJ0, "checkIndex", "(II)V"⟩
def RJ1 : String := "java/lang/StringLatin1"
def TJ1 : u_T := fun k => match k with
  | _ => ("", "", "", false)
def tyJ1 : Nat → FieldType := fun k => match k with
  | _ => .int
abbrev wsJ10 : List Cond := u_ws RJ1 TJ1 0
theorem nmJ1 : ∀ a, a < 0 → ∀ b, b < 0 → a ≠ b → (TJ1 a).2.1 ≠ (TJ1 b).2.1 := by decide +kernel
theorem tyJ1_ok : ∀ k, k < 0 → parseFieldDescriptor (TJ1 k).2.2.1 = some (tyJ1 k) := by decide +kernel
abbrev cJ1_charAt_3b067 : ByteArray := prog_13_method_2_code
def yJ1_charAt_3b067 : MethodName := ⟨RJ1, "charAt", "([BI)C"⟩
def RJ2 : String := "java/lang/StringUTF16"
def TJ2 : u_T := fun k => match k with
  | _ => ("", "", "", false)
def tyJ2 : Nat → FieldType := fun k => match k with
  | _ => .int
abbrev wsJ20 : List Cond := u_ws RJ2 TJ2 0
theorem nmJ2 : ∀ a, a < 0 → ∀ b, b < 0 → a ≠ b → (TJ2 a).2.1 ≠ (TJ2 b).2.1 := by decide +kernel
theorem tyJ2_ok : ∀ k, k < 0 → parseFieldDescriptor (TJ2 k).2.2.1 = some (tyJ2 k) := by decide +kernel
abbrev cJ2_getChar_3b067 : ByteArray := prog_14_method_5_code
def yJ2_getChar_3b067 : MethodName := ⟨RJ2, "getChar", "([BI)C"⟩
abbrev cJ2_length_9d52b : ByteArray := prog_14_method_6_code
def yJ2_length_9d52b : MethodName := ⟨RJ2, "length", "([B)I"⟩
abbrev cJ2_charAt_3b067 : ByteArray := prog_14_method_83_code
def yJ2_charAt_3b067 : MethodName := ⟨RJ2, "charAt", "([BI)C"⟩
abbrev cJ2_checkIndex_2214a : ByteArray := prog_14_method_91_code
def yJ2_checkIndex_2214a : MethodName := ⟨RJ2, "checkIndex", "(I[B)V"⟩
def RJ10 : String := "java/lang/System"
def TJ10 : u_T := fun k => match k with
  | _ => ("", "", "", false)
def tyJ10 : Nat → FieldType := fun k => match k with
  | _ => .int
abbrev wsJ100 : List Cond := u_ws RJ10 TJ10 0
theorem nmJ10 : ∀ a, a < 0 → ∀ b, b < 0 → a ≠ b → (TJ10 a).2.1 ≠ (TJ10 b).2.1 := by decide +kernel
theorem tyJ10_ok : ∀ k, k < 0 → parseFieldDescriptor (TJ10 k).2.2.1 = some (tyJ10 k) := by decide +kernel
def RJ3 : String := "jdk/internal/util/Preconditions"
def TJ3 : u_T := fun k => match k with
  | _ => ("", "", "", false)
def tyJ3 : Nat → FieldType := fun k => match k with
  | _ => .int
abbrev wsJ30 : List Cond := u_ws RJ3 TJ3 0
theorem nmJ3 : ∀ a, a < 0 → ∀ b, b < 0 → a ≠ b → (TJ3 a).2.1 ≠ (TJ3 b).2.1 := by decide +kernel
theorem tyJ3_ok : ∀ k, k < 0 → parseFieldDescriptor (TJ3 k).2.2.1 = some (tyJ3 k) := by decide +kernel
abbrev cJ3_checkIndex_8e157 : ByteArray := prog_16_method_11_code
def yJ3_checkIndex_8e157 : MethodName := ⟨RJ3, "checkIndex", "(IILjava/util/function/BiFunction;)I"⟩
def RL : String := "TownBandLaw"
abbrev cL_law : ByteArray := code
def yL_law : MethodName := ⟨RL, "law", "([I)Z"⟩
def wsX0_init : List Cond := .code yX0_init cX0_init 1 none :: ([.methodLink RX0 3 objectInit, .instanceMethod objectInit, .code objectInit ⟨#[0xb1]⟩ 1 none, .arrayClass .int, .fieldLink RX0 9 "TownBand$Band" "kinds" "[I", .fieldLink RX0 15 "TownBand$Band" "weights" "[I", .fieldLink RX0 18 "TownBand$Band" "voices" "[I", .fieldLink RX0 21 "TownBand$Band" "courages" "[I", .fieldLink RX0 24 "TownBand$Band" "tower" "[I", .fieldLink RX0 27 "TownBand$Band" "bedRow" "[I", .fieldLink RX0 30 "TownBand$Band" "beasts" "I", .fieldLink RX0 34 "TownBand$Band" "robbers" "I", .fieldLink RX0 37 "TownBand$Band" "height" "I", .fieldLink RX0 40 "TownBand$Band" "nerve" "I"] ++ wsX00)
def wsX0_clear : List Cond := .code yX0_clear cX0_clear 1 none :: ([.fieldLink RX0 30 "TownBand$Band" "beasts" "I", .fieldLink RX0 34 "TownBand$Band" "robbers" "I", .fieldLink RX0 37 "TownBand$Band" "height" "I", .fieldLink RX0 40 "TownBand$Band" "nerve" "I"] ++ wsX00)
def wsX0_copyFrom : List Cond := .code yX0_copyFrom cX0_copyFrom 2 none :: ([.fieldLink RX0 9 "TownBand$Band" "kinds" "[I", .methodLink RX0 43 arraycopyName, .native arraycopyName, .static arraycopyName, .initialized "java/lang/System", .fieldLink RX0 15 "TownBand$Band" "weights" "[I", .fieldLink RX0 18 "TownBand$Band" "voices" "[I", .fieldLink RX0 21 "TownBand$Band" "courages" "[I", .fieldLink RX0 24 "TownBand$Band" "tower" "[I", .fieldLink RX0 27 "TownBand$Band" "bedRow" "[I", .fieldLink RX0 30 "TownBand$Band" "beasts" "I", .fieldLink RX0 34 "TownBand$Band" "robbers" "I", .fieldLink RX0 37 "TownBand$Band" "height" "I", .fieldLink RX0 40 "TownBand$Band" "nerve" "I"] ++ wsX00)
def wsX6_within : List Cond := .code yX6_within cX6_within 3 (some .boolean) :: ([])
def wsX0_hasBeast : List Cond := .code yX0_hasBeast cX0_hasBeast 2 (some .boolean) :: ([.fieldLink RX0 30 "TownBand$Band" "beasts" "I", .static yX6_within, .initialized RX6, .code yX6_within cX6_within 3 (some .boolean)] ++ wsX00)
def wsX0_hasRobber : List Cond := .code yX0_hasRobber cX0_hasRobber 2 (some .boolean) :: ([.fieldLink RX0 34 "TownBand$Band" "robbers" "I", .static yX6_within, .initialized RX6, .code yX6_within cX6_within 3 (some .boolean)] ++ wsX00)
def wsX0_byKind : List Cond := .code yX0_byKind cX0_byKind 2 (some .int) :: ([])
def wsX0_bears : List Cond := .code yX0_bears cX0_bears 2 (some .int) :: ([.fieldLink RX0 9 "TownBand$Band" "kinds" "[I", .fieldLink RX0 15 "TownBand$Band" "weights" "[I", .methodLink RX0 53 yX0_byKind, .static yX0_byKind, .initialized RX0, .code yX0_byKind cX0_byKind 2 (some .int)] ++ wsX00)
def wsX0_hurts : List Cond := .code yX0_hurts cX0_hurts 2 (some .int) :: ([.fieldLink RX0 9 "TownBand$Band" "kinds" "[I", .methodLink RX0 53 yX0_byKind, .static yX0_byKind, .initialized RX0, .code yX0_byKind cX0_byKind 2 (some .int)] ++ wsX00)
def wsX0_towerBits : List Cond := .code yX0_towerBits cX0_towerBits 3 (some .int) :: ([.fieldLink RX0 37 "TownBand$Band" "height" "I", .fieldLink RX0 24 "TownBand$Band" "tower" "[I"] ++ wsX00)
def wsX0_carries : List Cond := .code yX0_carries cX0_carries 6 (some .boolean) :: ([.fieldLink RX0 15 "TownBand$Band" "weights" "[I", .methodLink RX0 65 yX0_bears, .instanceMethod yX0_bears, .selects RX0 yX0_bears yX0_bears, .initialized RX0, .code yX0_bears cX0_bears 2 (some .int), .fieldLink RX0 9 "TownBand$Band" "kinds" "[I", .methodLink RX0 53 yX0_byKind, .static yX0_byKind, .code yX0_byKind cX0_byKind 2 (some .int)] ++ wsX00)
def wsX0_stands : List Cond := .code yX0_stands cX0_stands 1 (some .boolean) :: ([.fieldLink RX0 24 "TownBand$Band" "tower" "[I", .fieldLink RX0 37 "TownBand$Band" "height" "I", .methodLink RX0 57 yX0_carries, .instanceMethod yX0_carries, .selects RX0 yX0_carries yX0_carries, .initialized RX0, .code yX0_carries cX0_carries 6 (some .boolean), .fieldLink RX0 15 "TownBand$Band" "weights" "[I", .methodLink RX0 65 yX0_bears, .instanceMethod yX0_bears, .selects RX0 yX0_bears yX0_bears, .code yX0_bears cX0_bears 2 (some .int), .fieldLink RX0 9 "TownBand$Band" "kinds" "[I", .methodLink RX0 53 yX0_byKind, .static yX0_byKind, .code yX0_byKind cX0_byKind 2 (some .int)] ++ wsX00)
def wsX0_canClimb : List Cond := .code yX0_canClimb cX0_canClimb 2 (some .boolean) :: ([.fieldLink RX0 37 "TownBand$Band" "height" "I", .fieldLink RX0 24 "TownBand$Band" "tower" "[I", .fieldLink RX0 15 "TownBand$Band" "weights" "[I", .methodLink RX0 61 yX0_towerBits, .instanceMethod yX0_towerBits, .selects RX0 yX0_towerBits yX0_towerBits, .initialized RX0, .code yX0_towerBits cX0_towerBits 3 (some .int), .methodLink RX0 57 yX0_carries, .instanceMethod yX0_carries, .selects RX0 yX0_carries yX0_carries, .code yX0_carries cX0_carries 6 (some .boolean), .methodLink RX0 65 yX0_bears, .instanceMethod yX0_bears, .selects RX0 yX0_bears yX0_bears, .code yX0_bears cX0_bears 2 (some .int), .fieldLink RX0 9 "TownBand$Band" "kinds" "[I", .methodLink RX0 53 yX0_byKind, .static yX0_byKind, .code yX0_byKind cX0_byKind 2 (some .int)] ++ wsX00)
def wsX0_noiseBy : List Cond := .code yX0_noiseBy cX0_noiseBy 6 (some .int) :: ([])
def wsX0_fledBits : List Cond := .code yX0_fledBits cX0_fledBits 5 (some .int) :: ([.fieldLink RX0 34 "TownBand$Band" "robbers" "I", .fieldLink RX0 21 "TownBand$Band" "courages" "[I"] ++ wsX00)
def wsX0_metOn : List Cond := .code yX0_metOn cX0_metOn 4 (some .int) :: ([.fieldLink RX0 30 "TownBand$Band" "beasts" "I", .fieldLink RX0 40 "TownBand$Band" "nerve" "I", .methodLink RX0 69 yX0_hurts, .instanceMethod yX0_hurts, .selects RX0 yX0_hurts yX0_hurts, .initialized RX0, .code yX0_hurts cX0_hurts 2 (some .int), .fieldLink RX0 9 "TownBand$Band" "kinds" "[I", .methodLink RX0 53 yX0_byKind, .static yX0_byKind, .code yX0_byKind cX0_byKind 2 (some .int)] ++ wsX00)
def wsX0_hurtBehind : List Cond := .code yX0_hurtBehind cX0_hurtBehind 5 (some .int) :: ([.methodLink RX0 69 yX0_hurts, .instanceMethod yX0_hurts, .selects RX0 yX0_hurts yX0_hurts, .initialized RX0, .code yX0_hurts cX0_hurts 2 (some .int), .fieldLink RX0 9 "TownBand$Band" "kinds" "[I", .methodLink RX0 53 yX0_byKind, .static yX0_byKind, .code yX0_byKind cX0_byKind 2 (some .int)] ++ wsX00)
def wsX1_init : List Cond := .code yX1_init cX1_init 1 none :: ([.methodLink RX1 3 objectInit, .instanceMethod objectInit, .code objectInit ⟨#[0xb1]⟩ 1 none, .arrayClass .int, .fieldLink RX1 9 "TownBand$Orders" "row" "[I", .fieldLink RX1 15 "TownBand$Orders" "first" "[I", .fieldLink RX1 18 "TownBand$Orders" "liers" "[I", .fieldLink RX1 21 "TownBand$Orders" "tally" "[I"] ++ wsX10)
def wsX6_fillByOrder : List Cond := .code yX6_fillByOrder cX6_fillByOrder 2 none :: ([])
def wsX6_factorial : List Cond := .code yX6_factorial cX6_factorial 3 (some .int) :: ([])
def wsX6_exchange : List Cond := .code yX6_exchange cX6_exchange 4 none :: ([])
def wsX1_stepOn : List Cond := .code yX1_stepOn cX1_stepOn 6 none :: ([.fieldLink RX1 9 "TownBand$Orders" "row" "[I", .static yX6_exchange, .initialized RX6, .code yX6_exchange cX6_exchange 4 none] ++ wsX10)
def wsX1_seekWorst_r1 : List Cond := [Cond.fieldLink RX1 9 "TownBand$Orders" "row" "[I", Cond.fieldLink RX1 28 "TownBand$Orders" "worstHurt" "I", Cond.fieldLink RX1 15 "TownBand$Orders" "first" "[I", Cond.methodLink RX1 49 arraycopyName, Cond.native arraycopyName, Cond.static arraycopyName, Cond.initialized "java/lang/System", Cond.static yX6_fillByOrder, Cond.initialized RX6, Cond.code yX6_fillByOrder cX6_fillByOrder 2 none, Cond.static yX6_factorial, Cond.code yX6_factorial cX6_factorial 3 (some .int), Cond.instanceMethod yX0_metOn, Cond.initialized RX0, Cond.selects RX0 yX0_metOn yX0_metOn, Cond.code yX0_metOn cX0_metOn 4 (some .int), Cond.fieldLink RX0 30 "TownBand$Band" "beasts" "I", Cond.fieldLink RX0 40 "TownBand$Band" "nerve" "I", Cond.methodLink RX0 69 yX0_hurts, Cond.instanceMethod yX0_hurts, Cond.selects RX0 yX0_hurts yX0_hurts, Cond.code yX0_hurts cX0_hurts 2 (some .int), Cond.fieldLink RX0 9 "TownBand$Band" "kinds" "[I", Cond.methodLink RX0 53 yX0_byKind]
def wsX1_seekWorst_r2 : List Cond := [Cond.static yX0_byKind, Cond.code yX0_byKind cX0_byKind 2 (some .int), Cond.instanceMethod yX0_hurtBehind, Cond.selects RX0 yX0_hurtBehind yX0_hurtBehind, Cond.code yX0_hurtBehind cX0_hurtBehind 5 (some .int), Cond.methodLink RX1 55 yX1_stepOn, Cond.instanceMethod yX1_stepOn, Cond.selects RX1 yX1_stepOn yX1_stepOn, Cond.initialized RX1, Cond.code yX1_stepOn cX1_stepOn 6 none, Cond.static yX6_exchange, Cond.code yX6_exchange cX6_exchange 4 none]
def wsX1_seekWorst : List Cond := .code yX1_seekWorst cX1_seekWorst 5 none :: ((wsX1_seekWorst_r1 ++ wsX1_seekWorst_r2) ++ wsX10 ++ wsX00)
def wsX1_isAsSeen : List Cond := .code yX1_isAsSeen cX1_isAsSeen 5 (some .boolean) :: ([.fieldLink RX1 9 "TownBand$Orders" "row" "[I", .instanceMethod yX0_hurtBehind, .initialized RX0, .selects RX0 yX0_hurtBehind yX0_hurtBehind, .code yX0_hurtBehind cX0_hurtBehind 5 (some .int), .methodLink RX0 69 yX0_hurts, .instanceMethod yX0_hurts, .selects RX0 yX0_hurts yX0_hurts, .code yX0_hurts cX0_hurts 2 (some .int), .fieldLink RX0 9 "TownBand$Band" "kinds" "[I", .methodLink RX0 53 yX0_byKind, .static yX0_byKind, .code yX0_byKind cX0_byKind 2 (some .int)] ++ wsX20 ++ wsX00 ++ wsX10)
def wsX1_enter : List Cond := .code yX1_enter cX1_enter 4 none :: ([.fieldLink RX1 59 "TownBand$Orders" "fitting" "I", .fieldLink RX1 9 "TownBand$Orders" "row" "[I", .fieldLink RX1 15 "TownBand$Orders" "first" "[I", .methodLink RX1 49 arraycopyName, .native arraycopyName, .static arraycopyName, .initialized "java/lang/System", .fieldLink RX1 18 "TownBand$Orders" "liers" "[I", .fieldLink RX1 21 "TownBand$Orders" "tally" "[I", .instanceMethod yX0_hurts, .initialized RX0, .selects RX0 yX0_hurts yX0_hurts, .code yX0_hurts cX0_hurts 2 (some .int), .fieldLink RX0 9 "TownBand$Band" "kinds" "[I", .methodLink RX0 53 yX0_byKind, .static yX0_byKind, .code yX0_byKind cX0_byKind 2 (some .int)] ++ wsX10 ++ wsX00)
def wsX1_seekFitting_r1 : List Cond := [Cond.fieldLink RX1 9 "TownBand$Orders" "row" "[I", Cond.fieldLink RX1 59 "TownBand$Orders" "fitting" "I", Cond.fieldLink RX1 18 "TownBand$Orders" "liers" "[I", Cond.fieldLink RX1 21 "TownBand$Orders" "tally" "[I", Cond.static yX6_fillByOrder, Cond.initialized RX6, Cond.code yX6_fillByOrder cX6_fillByOrder 2 none, Cond.static yX6_factorial, Cond.code yX6_factorial cX6_factorial 3 (some .int), Cond.methodLink RX1 62 yX1_isAsSeen, Cond.instanceMethod yX1_isAsSeen, Cond.selects RX1 yX1_isAsSeen yX1_isAsSeen, Cond.initialized RX1, Cond.code yX1_isAsSeen cX1_isAsSeen 5 (some .boolean), Cond.instanceMethod yX0_hurtBehind, Cond.initialized RX0, Cond.selects RX0 yX0_hurtBehind yX0_hurtBehind, Cond.code yX0_hurtBehind cX0_hurtBehind 5 (some .int), Cond.methodLink RX0 69 yX0_hurts, Cond.instanceMethod yX0_hurts, Cond.selects RX0 yX0_hurts yX0_hurts, Cond.code yX0_hurts cX0_hurts 2 (some .int), Cond.fieldLink RX0 9 "TownBand$Band" "kinds" "[I", Cond.methodLink RX0 53 yX0_byKind]
def wsX1_seekFitting_r2 : List Cond := [Cond.static yX0_byKind, Cond.code yX0_byKind cX0_byKind 2 (some .int), Cond.methodLink RX1 66 yX1_enter, Cond.instanceMethod yX1_enter, Cond.selects RX1 yX1_enter yX1_enter, Cond.code yX1_enter cX1_enter 4 none, Cond.fieldLink RX1 15 "TownBand$Orders" "first" "[I", Cond.methodLink RX1 49 arraycopyName, Cond.native arraycopyName, Cond.static arraycopyName, Cond.initialized "java/lang/System", Cond.methodLink RX1 55 yX1_stepOn, Cond.instanceMethod yX1_stepOn, Cond.selects RX1 yX1_stepOn yX1_stepOn, Cond.code yX1_stepOn cX1_stepOn 6 none, Cond.static yX6_exchange, Cond.code yX6_exchange cX6_exchange 4 none]
def wsX1_seekFitting : List Cond := .code yX1_seekFitting cX1_seekFitting 5 none :: ((wsX1_seekFitting_r1 ++ wsX1_seekFitting_r2) ++ wsX10 ++ wsX00 ++ wsX20)
def wsX1_mostLeft : List Cond := .code yX1_mostLeft cX1_mostLeft 4 (some .int) :: ([.fieldLink RX1 21 "TownBand$Orders" "tally" "[I", .methodLink RX1 84 Lib.Math.max.name, .static Lib.Math.max.name, .initialized "java/lang/Math", .code Lib.Math.max.name Lib.Math.max.code 2 (some .int)] ++ wsX10)
def wsX2_init : List Cond := .code yX2_init cX2_init 1 none :: ([.methodLink RX2 3 objectInit, .instanceMethod objectInit, .code objectInit ⟨#[0xb1]⟩ 1 none, .arrayClass .int, .fieldLink RX2 9 "TownBand$Seen" "behind" "[I", .fieldLink RX2 15 "TownBand$Seen" "hurt" "[I", .fieldLink RX2 18 "TownBand$Seen" "size" "I"] ++ wsX20)
def wsX3_init : List Cond := .code yX3_init cX3_init 1 none :: ([.methodLink RX3 3 objectInit, .instanceMethod objectInit, .code objectInit ⟨#[0xb1]⟩ 1 none, .arrayClass .int, .fieldLink RX3 9 "TownBand$Sheet" "cells" "[I", .fieldLink RX3 15 "TownBand$Sheet" "lane" "I", .fieldLink RX3 19 "TownBand$Sheet" "size" "I"] ++ wsX30)
def wsX3_renew : List Cond := .code yX3_renew cX3_renew 4 none :: ([.fieldLink RX3 15 "TownBand$Sheet" "lane" "I", .fieldLink RX3 19 "TownBand$Sheet" "size" "I", .fieldLink RX3 9 "TownBand$Sheet" "cells" "[I"] ++ wsX30)
def wsX3_faultAt : List Cond := .code yX3_faultAt cX3_faultAt 2 (some .int) :: ([.fieldLink RX3 15 "TownBand$Sheet" "lane" "I", .fieldLink RX3 19 "TownBand$Sheet" "size" "I", .static yX6_within, .initialized RX6, .code yX6_within cX6_within 3 (some .boolean)] ++ wsX30)
def wsX3_faultAs : List Cond := .code yX3_faultAs cX3_faultAs 3 (some .int) :: ([.fieldLink RX3 15 "TownBand$Sheet" "lane" "I", .methodLink RX3 22 yX3_faultAt, .instanceMethod yX3_faultAt, .selects RX3 yX3_faultAt yX3_faultAt, .initialized RX3, .code yX3_faultAt cX3_faultAt 2 (some .int), .fieldLink RX3 19 "TownBand$Sheet" "size" "I", .static yX6_within, .initialized RX6, .code yX6_within cX6_within 3 (some .boolean)] ++ wsX30)
def wsX3_put : List Cond := .code yX3_put cX3_put 3 none :: ([.fieldLink RX3 15 "TownBand$Sheet" "lane" "I", .fieldLink RX3 9 "TownBand$Sheet" "cells" "[I"] ++ wsX30)
def wsX4_init : List Cond := .code yX4_init cX4_init 1 none :: ([.methodLink RX4 3 objectInit, .instanceMethod objectInit, .code objectInit ⟨#[0xb1]⟩ 1 none, .arrayClass .int, .fieldLink RX4 9 "TownBand$Tape" "bytes" "[I", .classLink RX4 15 RX0, .instantiable RX0 10, .initialized RX0, .fieldLink RX4 18 "TownBand$Tape" "draft" "LTownBand$Band;", .fieldLink RX4 22 "TownBand$Tape" "length" "I", .fieldLink RX4 26 "TownBand$Tape" "flaw" "I", .instanceMethod yX0_init, .code yX0_init cX0_init 1 none, .methodLink RX0 3 objectInit, .fieldLink RX0 9 "TownBand$Band" "kinds" "[I", .fieldLink RX0 15 "TownBand$Band" "weights" "[I", .fieldLink RX0 18 "TownBand$Band" "voices" "[I", .fieldLink RX0 21 "TownBand$Band" "courages" "[I", .fieldLink RX0 24 "TownBand$Band" "tower" "[I", .fieldLink RX0 27 "TownBand$Band" "bedRow" "[I", .fieldLink RX0 30 "TownBand$Band" "beasts" "I", .fieldLink RX0 34 "TownBand$Band" "robbers" "I", .fieldLink RX0 37 "TownBand$Band" "height" "I", .fieldLink RX0 40 "TownBand$Band" "nerve" "I"] ++ wsX40 ++ wsX00)
def wsX4_passRun : List Cond := .code yX4_passRun cX4_passRun 3 none :: ([.fieldLink RX4 39 "TownBand$Tape" "place" "I", .fieldLink RX4 22 "TownBand$Tape" "length" "I", .fieldLink RX4 9 "TownBand$Tape" "bytes" "[I", .static yX6_within, .initialized RX6, .code yX6_within cX6_within 3 (some .boolean)] ++ wsX40)
def wsX4_spellNumber : List Cond := .code yX4_spellNumber cX4_spellNumber 2 (some .boolean) :: ([.fieldLink RX4 103 "TownBand$Tape" "number" "I", .fieldLink RX4 80 "TownBand$Tape" "start" "I", .fieldLink RX4 39 "TownBand$Tape" "place" "I", .fieldLink RX4 9 "TownBand$Tape" "bytes" "[I"] ++ wsX40)
def wsX4_refuse : List Cond := .code yX4_refuse cX4_refuse 3 (some .boolean) :: ([.fieldLink RX4 26 "TownBand$Tape" "flaw" "I", .fieldLink RX4 55 "TownBand$Tape" "flawPlace" "I"] ++ wsX40)
def wsX4_takeToken : List Cond := .code yX4_takeToken cX4_takeToken 2 (some .boolean) :: ([.fieldLink RX4 39 "TownBand$Tape" "place" "I", .fieldLink RX4 22 "TownBand$Tape" "length" "I", .fieldLink RX4 9 "TownBand$Tape" "bytes" "[I", .fieldLink RX4 80 "TownBand$Tape" "start" "I", .fieldLink RX4 61 "TownBand$Tape" "token" "I", .static yX6_within, .initialized RX6, .code yX6_within cX6_within 3 (some .boolean), .methodLink RX4 141 yX4_passRun, .instanceMethod yX4_passRun, .selects RX4 yX4_passRun yX4_passRun, .initialized RX4, .code yX4_passRun cX4_passRun 3 none, .methodLink RX4 145 yX4_spellNumber, .instanceMethod yX4_spellNumber, .selects RX4 yX4_spellNumber yX4_spellNumber, .code yX4_spellNumber cX4_spellNumber 2 (some .boolean), .fieldLink RX4 103 "TownBand$Tape" "number" "I", .methodLink RX4 83 yX4_refuse, .instanceMethod yX4_refuse, .selects RX4 yX4_refuse yX4_refuse, .code yX4_refuse cX4_refuse 3 (some .boolean), .fieldLink RX4 26 "TownBand$Tape" "flaw" "I", .fieldLink RX4 55 "TownBand$Tape" "flawPlace" "I"] ++ wsX40)
def wsX4_spelling : List Cond := .code yX4_spelling cX4_spelling 1 (some (.object "java/lang/String")) :: ([])
def wsJ0_coder_7d493 : List Cond := .code yJ0_coder_7d493 cJ0_coder_7d493 1 (some .byte) :: ([.fieldLink RJ0 38 "java/lang/String" "COMPACT_STRINGS" "Z", .fieldLink RJ0 15 "java/lang/String" "coder" "B"])
def wsJ0_length_8abf5 : List Cond := .code yJ0_length_8abf5 cJ0_length_8abf5 1 (some .int) :: ([.fieldLink RJ0 9 "java/lang/String" "value" "[B", .methodLink RJ0 335 yJ0_coder_7d493, .instanceMethod yJ0_coder_7d493, .selects RJ0 yJ0_coder_7d493 yJ0_coder_7d493, .initialized RJ0, .code yJ0_coder_7d493 cJ0_coder_7d493 1 (some .byte), .fieldLink RJ0 38 "java/lang/String" "COMPACT_STRINGS" "Z", .fieldLink RJ0 15 "java/lang/String" "coder" "B"])
def wsJ0_isLatin1_aae02 : List Cond := .code yJ0_isLatin1_aae02 cJ0_isLatin1_aae02 1 (some .boolean) :: ([.fieldLink RJ0 38 "java/lang/String" "COMPACT_STRINGS" "Z", .fieldLink RJ0 15 "java/lang/String" "coder" "B"])
def wsJ3_checkIndex_8e157 : List Cond := .code yJ3_checkIndex_8e157 cJ3_checkIndex_8e157 3 (some .int) :: ([])
def wsJ0_checkIndex_df160 : List Cond := .code yJ0_checkIndex_df160 cJ0_checkIndex_df160 2 none :: ([.fieldLink RJ0 1053 "jdk/internal/util/Preconditions" "SIOOBE_FORMATTER" "Ljava/util/function/BiFunction;", .methodLink RJ0 1059 yJ3_checkIndex_8e157, .static yJ3_checkIndex_8e157, .initialized RJ3, .code yJ3_checkIndex_8e157 cJ3_checkIndex_8e157 3 (some .int)])
def wsJ1_charAt_3b067 : List Cond := .code yJ1_charAt_3b067 cJ1_charAt_3b067 2 (some .char) :: ([.methodLink RJ1 9 yJ0_checkIndex_df160, .static yJ0_checkIndex_df160, .initialized RJ0, .code yJ0_checkIndex_df160 cJ0_checkIndex_df160 2 none, .fieldLink RJ0 1053 "jdk/internal/util/Preconditions" "SIOOBE_FORMATTER" "Ljava/util/function/BiFunction;", .methodLink RJ0 1059 yJ3_checkIndex_8e157, .static yJ3_checkIndex_8e157, .initialized RJ3, .code yJ3_checkIndex_8e157 cJ3_checkIndex_8e157 3 (some .int)])
def wsJ2_length_9d52b : List Cond := .code yJ2_length_9d52b cJ2_length_9d52b 1 (some .int) :: ([])
def wsJ2_checkIndex_2214a : List Cond := .code yJ2_checkIndex_2214a cJ2_checkIndex_2214a 2 none :: ([.methodLink RJ2 48 yJ2_length_9d52b, .static yJ2_length_9d52b, .initialized RJ2, .code yJ2_length_9d52b cJ2_length_9d52b 1 (some .int), .methodLink RJ2 414 yJ0_checkIndex_df160, .static yJ0_checkIndex_df160, .initialized RJ0, .code yJ0_checkIndex_df160 cJ0_checkIndex_df160 2 none, .fieldLink RJ0 1053 "jdk/internal/util/Preconditions" "SIOOBE_FORMATTER" "Ljava/util/function/BiFunction;", .methodLink RJ0 1059 yJ3_checkIndex_8e157, .static yJ3_checkIndex_8e157, .initialized RJ3, .code yJ3_checkIndex_8e157 cJ3_checkIndex_8e157 3 (some .int)])
def wsJ2_getChar_3b067 : List Cond := .code yJ2_getChar_3b067 cJ2_getChar_3b067 2 (some .char) :: ([.fieldLink RJ2 44 "java/lang/StringUTF16" "$assertionsDisabled" "Z", .fieldLink RJ2 59 "java/lang/StringUTF16" "HI_BYTE_SHIFT" "I", .fieldLink RJ2 63 "java/lang/StringUTF16" "LO_BYTE_SHIFT" "I", .methodLink RJ2 48 yJ2_length_9d52b, .static yJ2_length_9d52b, .initialized RJ2, .code yJ2_length_9d52b cJ2_length_9d52b 1 (some .int)])
def wsJ2_charAt_3b067 : List Cond := .code yJ2_charAt_3b067 cJ2_charAt_3b067 2 (some .char) :: ([.methodLink RJ2 67 yJ2_checkIndex_2214a, .static yJ2_checkIndex_2214a, .initialized RJ2, .code yJ2_checkIndex_2214a cJ2_checkIndex_2214a 2 none, .methodLink RJ2 48 yJ2_length_9d52b, .static yJ2_length_9d52b, .code yJ2_length_9d52b cJ2_length_9d52b 1 (some .int), .methodLink RJ2 414 yJ0_checkIndex_df160, .static yJ0_checkIndex_df160, .initialized RJ0, .code yJ0_checkIndex_df160 cJ0_checkIndex_df160 2 none, .fieldLink RJ0 1053 "jdk/internal/util/Preconditions" "SIOOBE_FORMATTER" "Ljava/util/function/BiFunction;", .methodLink RJ0 1059 yJ3_checkIndex_8e157, .static yJ3_checkIndex_8e157, .initialized RJ3, .code yJ3_checkIndex_8e157 cJ3_checkIndex_8e157 3 (some .int), .methodLink RJ2 71 yJ2_getChar_3b067, .static yJ2_getChar_3b067, .code yJ2_getChar_3b067 cJ2_getChar_3b067 2 (some .char), .fieldLink RJ2 44 "java/lang/StringUTF16" "$assertionsDisabled" "Z", .fieldLink RJ2 59 "java/lang/StringUTF16" "HI_BYTE_SHIFT" "I", .fieldLink RJ2 63 "java/lang/StringUTF16" "LO_BYTE_SHIFT" "I"])
def wsJ0_charAt_5068e_r1 : List Cond := [Cond.fieldLink RJ0 9 "java/lang/String" "value" "[B", Cond.methodLink RJ0 492 yJ0_isLatin1_aae02, Cond.instanceMethod yJ0_isLatin1_aae02, Cond.selects RJ0 yJ0_isLatin1_aae02 yJ0_isLatin1_aae02, Cond.initialized RJ0, Cond.code yJ0_isLatin1_aae02 cJ0_isLatin1_aae02 1 (some .boolean), Cond.fieldLink RJ0 38 "java/lang/String" "COMPACT_STRINGS" "Z", Cond.fieldLink RJ0 15 "java/lang/String" "coder" "B", Cond.methodLink RJ0 495 yJ1_charAt_3b067, Cond.static yJ1_charAt_3b067, Cond.initialized RJ1, Cond.code yJ1_charAt_3b067 cJ1_charAt_3b067 2 (some .char), Cond.methodLink RJ1 9 yJ0_checkIndex_df160, Cond.static yJ0_checkIndex_df160, Cond.code yJ0_checkIndex_df160 cJ0_checkIndex_df160 2 none, Cond.fieldLink RJ0 1053 "jdk/internal/util/Preconditions" "SIOOBE_FORMATTER" "Ljava/util/function/BiFunction;", Cond.methodLink RJ0 1059 yJ3_checkIndex_8e157, Cond.static yJ3_checkIndex_8e157, Cond.initialized RJ3, Cond.code yJ3_checkIndex_8e157 cJ3_checkIndex_8e157 3 (some .int), Cond.methodLink RJ0 498 yJ2_charAt_3b067, Cond.static yJ2_charAt_3b067, Cond.initialized RJ2, Cond.code yJ2_charAt_3b067 cJ2_charAt_3b067 2 (some .char)]
def wsJ0_charAt_5068e_r2 : List Cond := [Cond.methodLink RJ2 67 yJ2_checkIndex_2214a, Cond.static yJ2_checkIndex_2214a, Cond.code yJ2_checkIndex_2214a cJ2_checkIndex_2214a 2 none, Cond.methodLink RJ2 48 yJ2_length_9d52b, Cond.static yJ2_length_9d52b, Cond.code yJ2_length_9d52b cJ2_length_9d52b 1 (some .int), Cond.methodLink RJ2 414 yJ0_checkIndex_df160, Cond.methodLink RJ2 71 yJ2_getChar_3b067, Cond.static yJ2_getChar_3b067, Cond.code yJ2_getChar_3b067 cJ2_getChar_3b067 2 (some .char), Cond.fieldLink RJ2 44 "java/lang/StringUTF16" "$assertionsDisabled" "Z", Cond.fieldLink RJ2 59 "java/lang/StringUTF16" "HI_BYTE_SHIFT" "I", Cond.fieldLink RJ2 63 "java/lang/StringUTF16" "LO_BYTE_SHIFT" "I"]
def wsJ0_charAt_5068e : List Cond := .code yJ0_charAt_5068e cJ0_charAt_5068e 2 (some .char) :: ((wsJ0_charAt_5068e_r1 ++ wsJ0_charAt_5068e_r2))
def wsX4_isSpelt_r1 : List Cond := [Cond.fieldLink RX4 39 "TownBand$Tape" "place" "I", Cond.fieldLink RX4 80 "TownBand$Tape" "start" "I", Cond.fieldLink RX4 9 "TownBand$Tape" "bytes" "[I", Cond.methodLink RX4 156 yJ0_length_8abf5, Cond.instanceMethod yJ0_length_8abf5, Cond.selects RJ0 yJ0_length_8abf5 yJ0_length_8abf5, Cond.initialized RJ0, Cond.code yJ0_length_8abf5 cJ0_length_8abf5 1 (some .int), Cond.fieldLink RJ0 9 "java/lang/String" "value" "[B", Cond.methodLink RJ0 335 yJ0_coder_7d493, Cond.instanceMethod yJ0_coder_7d493, Cond.selects RJ0 yJ0_coder_7d493 yJ0_coder_7d493, Cond.code yJ0_coder_7d493 cJ0_coder_7d493 1 (some .byte), Cond.fieldLink RJ0 38 "java/lang/String" "COMPACT_STRINGS" "Z", Cond.fieldLink RJ0 15 "java/lang/String" "coder" "B", Cond.methodLink RX4 160 yJ0_charAt_5068e, Cond.instanceMethod yJ0_charAt_5068e, Cond.selects RJ0 yJ0_charAt_5068e yJ0_charAt_5068e, Cond.code yJ0_charAt_5068e cJ0_charAt_5068e 2 (some .char), Cond.methodLink RJ0 492 yJ0_isLatin1_aae02, Cond.instanceMethod yJ0_isLatin1_aae02, Cond.selects RJ0 yJ0_isLatin1_aae02 yJ0_isLatin1_aae02, Cond.code yJ0_isLatin1_aae02 cJ0_isLatin1_aae02 1 (some .boolean), Cond.methodLink RJ0 495 yJ1_charAt_3b067]
def wsX4_isSpelt_r2 : List Cond := [Cond.static yJ1_charAt_3b067, Cond.initialized RJ1, Cond.code yJ1_charAt_3b067 cJ1_charAt_3b067 2 (some .char), Cond.methodLink RJ1 9 yJ0_checkIndex_df160, Cond.static yJ0_checkIndex_df160, Cond.code yJ0_checkIndex_df160 cJ0_checkIndex_df160 2 none, Cond.fieldLink RJ0 1053 "jdk/internal/util/Preconditions" "SIOOBE_FORMATTER" "Ljava/util/function/BiFunction;", Cond.methodLink RJ0 1059 yJ3_checkIndex_8e157, Cond.static yJ3_checkIndex_8e157, Cond.initialized RJ3, Cond.code yJ3_checkIndex_8e157 cJ3_checkIndex_8e157 3 (some .int), Cond.methodLink RJ0 498 yJ2_charAt_3b067, Cond.static yJ2_charAt_3b067, Cond.initialized RJ2, Cond.code yJ2_charAt_3b067 cJ2_charAt_3b067 2 (some .char), Cond.methodLink RJ2 67 yJ2_checkIndex_2214a, Cond.static yJ2_checkIndex_2214a, Cond.code yJ2_checkIndex_2214a cJ2_checkIndex_2214a 2 none, Cond.methodLink RJ2 48 yJ2_length_9d52b, Cond.static yJ2_length_9d52b, Cond.code yJ2_length_9d52b cJ2_length_9d52b 1 (some .int), Cond.methodLink RJ2 414 yJ0_checkIndex_df160, Cond.methodLink RJ2 71 yJ2_getChar_3b067, Cond.static yJ2_getChar_3b067]
def wsX4_isSpelt_r3 : List Cond := [Cond.code yJ2_getChar_3b067 cJ2_getChar_3b067 2 (some .char), Cond.fieldLink RJ2 44 "java/lang/StringUTF16" "$assertionsDisabled" "Z", Cond.fieldLink RJ2 59 "java/lang/StringUTF16" "HI_BYTE_SHIFT" "I", Cond.fieldLink RJ2 63 "java/lang/StringUTF16" "LO_BYTE_SHIFT" "I"]
def wsX4_isSpelt : List Cond := .code yX4_isSpelt cX4_isSpelt 3 (some .boolean) :: ((wsX4_isSpelt_r1 ++ (wsX4_isSpelt_r2 ++ wsX4_isSpelt_r3)) ++ wsX40)
def wsX4_wordRead_r1 : List Cond := [Cond.methodLink RX4 148 yX4_spelling, Cond.static yX4_spelling, Cond.initialized RX4, Cond.code yX4_spelling cX4_spelling 1 (some (.object "java/lang/String")), Cond.methodLink RX4 152 yX4_isSpelt, Cond.instanceMethod yX4_isSpelt, Cond.selects RX4 yX4_isSpelt yX4_isSpelt, Cond.code yX4_isSpelt cX4_isSpelt 3 (some .boolean), Cond.fieldLink RX4 39 "TownBand$Tape" "place" "I", Cond.fieldLink RX4 80 "TownBand$Tape" "start" "I", Cond.fieldLink RX4 9 "TownBand$Tape" "bytes" "[I", Cond.methodLink RX4 156 yJ0_length_8abf5, Cond.instanceMethod yJ0_length_8abf5, Cond.selects RJ0 yJ0_length_8abf5 yJ0_length_8abf5, Cond.initialized RJ0, Cond.code yJ0_length_8abf5 cJ0_length_8abf5 1 (some .int), Cond.fieldLink RJ0 9 "java/lang/String" "value" "[B", Cond.methodLink RJ0 335 yJ0_coder_7d493, Cond.instanceMethod yJ0_coder_7d493, Cond.selects RJ0 yJ0_coder_7d493 yJ0_coder_7d493, Cond.code yJ0_coder_7d493 cJ0_coder_7d493 1 (some .byte), Cond.fieldLink RJ0 38 "java/lang/String" "COMPACT_STRINGS" "Z", Cond.fieldLink RJ0 15 "java/lang/String" "coder" "B", Cond.methodLink RX4 160 yJ0_charAt_5068e]
def wsX4_wordRead_r2 : List Cond := [Cond.instanceMethod yJ0_charAt_5068e, Cond.selects RJ0 yJ0_charAt_5068e yJ0_charAt_5068e, Cond.code yJ0_charAt_5068e cJ0_charAt_5068e 2 (some .char), Cond.methodLink RJ0 492 yJ0_isLatin1_aae02, Cond.instanceMethod yJ0_isLatin1_aae02, Cond.selects RJ0 yJ0_isLatin1_aae02 yJ0_isLatin1_aae02, Cond.code yJ0_isLatin1_aae02 cJ0_isLatin1_aae02 1 (some .boolean), Cond.methodLink RJ0 495 yJ1_charAt_3b067, Cond.static yJ1_charAt_3b067, Cond.initialized RJ1, Cond.code yJ1_charAt_3b067 cJ1_charAt_3b067 2 (some .char), Cond.methodLink RJ1 9 yJ0_checkIndex_df160, Cond.static yJ0_checkIndex_df160, Cond.code yJ0_checkIndex_df160 cJ0_checkIndex_df160 2 none, Cond.fieldLink RJ0 1053 "jdk/internal/util/Preconditions" "SIOOBE_FORMATTER" "Ljava/util/function/BiFunction;", Cond.methodLink RJ0 1059 yJ3_checkIndex_8e157, Cond.static yJ3_checkIndex_8e157, Cond.initialized RJ3, Cond.code yJ3_checkIndex_8e157 cJ3_checkIndex_8e157 3 (some .int), Cond.methodLink RJ0 498 yJ2_charAt_3b067, Cond.static yJ2_charAt_3b067, Cond.initialized RJ2, Cond.code yJ2_charAt_3b067 cJ2_charAt_3b067 2 (some .char), Cond.methodLink RJ2 67 yJ2_checkIndex_2214a]
def wsX4_wordRead_r3 : List Cond := [Cond.static yJ2_checkIndex_2214a, Cond.code yJ2_checkIndex_2214a cJ2_checkIndex_2214a 2 none, Cond.methodLink RJ2 48 yJ2_length_9d52b, Cond.static yJ2_length_9d52b, Cond.code yJ2_length_9d52b cJ2_length_9d52b 1 (some .int), Cond.methodLink RJ2 414 yJ0_checkIndex_df160, Cond.methodLink RJ2 71 yJ2_getChar_3b067, Cond.static yJ2_getChar_3b067, Cond.code yJ2_getChar_3b067 cJ2_getChar_3b067 2 (some .char), Cond.fieldLink RJ2 44 "java/lang/StringUTF16" "$assertionsDisabled" "Z", Cond.fieldLink RJ2 59 "java/lang/StringUTF16" "HI_BYTE_SHIFT" "I", Cond.fieldLink RJ2 63 "java/lang/StringUTF16" "LO_BYTE_SHIFT" "I"]
def wsX4_wordRead : List Cond := .code yX4_wordRead cX4_wordRead 2 (some .int) :: ((wsX4_wordRead_r1 ++ (wsX4_wordRead_r2 ++ wsX4_wordRead_r3)) ++ wsX40)
def wsX4_numberWithin : List Cond := .code yX4_numberWithin cX4_numberWithin 3 (some .boolean) :: ([.fieldLink RX4 61 "TownBand$Tape" "token" "I", .fieldLink RX4 80 "TownBand$Tape" "start" "I", .fieldLink RX4 103 "TownBand$Tape" "number" "I", .methodLink RX4 83 yX4_refuse, .instanceMethod yX4_refuse, .selects RX4 yX4_refuse yX4_refuse, .initialized RX4, .code yX4_refuse cX4_refuse 3 (some .boolean), .fieldLink RX4 26 "TownBand$Tape" "flaw" "I", .fieldLink RX4 55 "TownBand$Tape" "flawPlace" "I", .static yX6_within, .initialized RX6, .code yX6_within cX6_within 3 (some .boolean)] ++ wsX40)
def wsX4_takeNumber_r1 : List Cond := [Cond.methodLink RX4 58 yX4_takeToken, Cond.instanceMethod yX4_takeToken, Cond.selects RX4 yX4_takeToken yX4_takeToken, Cond.initialized RX4, Cond.code yX4_takeToken cX4_takeToken 2 (some .boolean), Cond.fieldLink RX4 39 "TownBand$Tape" "place" "I", Cond.fieldLink RX4 22 "TownBand$Tape" "length" "I", Cond.fieldLink RX4 9 "TownBand$Tape" "bytes" "[I", Cond.fieldLink RX4 80 "TownBand$Tape" "start" "I", Cond.fieldLink RX4 61 "TownBand$Tape" "token" "I", Cond.static yX6_within, Cond.initialized RX6, Cond.code yX6_within cX6_within 3 (some .boolean), Cond.methodLink RX4 141 yX4_passRun, Cond.instanceMethod yX4_passRun, Cond.selects RX4 yX4_passRun yX4_passRun, Cond.code yX4_passRun cX4_passRun 3 none, Cond.methodLink RX4 145 yX4_spellNumber, Cond.instanceMethod yX4_spellNumber, Cond.selects RX4 yX4_spellNumber yX4_spellNumber, Cond.code yX4_spellNumber cX4_spellNumber 2 (some .boolean), Cond.fieldLink RX4 103 "TownBand$Tape" "number" "I", Cond.methodLink RX4 83 yX4_refuse, Cond.instanceMethod yX4_refuse]
def wsX4_takeNumber_r2 : List Cond := [Cond.selects RX4 yX4_refuse yX4_refuse, Cond.code yX4_refuse cX4_refuse 3 (some .boolean), Cond.fieldLink RX4 26 "TownBand$Tape" "flaw" "I", Cond.fieldLink RX4 55 "TownBand$Tape" "flawPlace" "I", Cond.methodLink RX4 134 yX4_numberWithin, Cond.instanceMethod yX4_numberWithin, Cond.selects RX4 yX4_numberWithin yX4_numberWithin, Cond.code yX4_numberWithin cX4_numberWithin 3 (some .boolean)]
def wsX4_takeNumber : List Cond := .code yX4_takeNumber cX4_takeNumber 3 (some .boolean) :: ((wsX4_takeNumber_r1 ++ wsX4_takeNumber_r2) ++ wsX40)
def wsX4_takeStop_r1 : List Cond := [Cond.fieldLink RX4 61 "TownBand$Tape" "token" "I", Cond.fieldLink RX4 80 "TownBand$Tape" "start" "I", Cond.methodLink RX4 58 yX4_takeToken, Cond.instanceMethod yX4_takeToken, Cond.selects RX4 yX4_takeToken yX4_takeToken, Cond.initialized RX4, Cond.code yX4_takeToken cX4_takeToken 2 (some .boolean), Cond.fieldLink RX4 39 "TownBand$Tape" "place" "I", Cond.fieldLink RX4 22 "TownBand$Tape" "length" "I", Cond.fieldLink RX4 9 "TownBand$Tape" "bytes" "[I", Cond.static yX6_within, Cond.initialized RX6, Cond.code yX6_within cX6_within 3 (some .boolean), Cond.methodLink RX4 141 yX4_passRun, Cond.instanceMethod yX4_passRun, Cond.selects RX4 yX4_passRun yX4_passRun, Cond.code yX4_passRun cX4_passRun 3 none, Cond.methodLink RX4 145 yX4_spellNumber, Cond.instanceMethod yX4_spellNumber, Cond.selects RX4 yX4_spellNumber yX4_spellNumber, Cond.code yX4_spellNumber cX4_spellNumber 2 (some .boolean), Cond.fieldLink RX4 103 "TownBand$Tape" "number" "I", Cond.methodLink RX4 83 yX4_refuse, Cond.instanceMethod yX4_refuse]
def wsX4_takeStop_r2 : List Cond := [Cond.selects RX4 yX4_refuse yX4_refuse, Cond.code yX4_refuse cX4_refuse 3 (some .boolean), Cond.fieldLink RX4 26 "TownBand$Tape" "flaw" "I", Cond.fieldLink RX4 55 "TownBand$Tape" "flawPlace" "I"]
def wsX4_takeStop : List Cond := .code yX4_takeStop cX4_takeStop 1 (some .boolean) :: ((wsX4_takeStop_r1 ++ wsX4_takeStop_r2) ++ wsX40)
def wsX4_takeRobber_r1 : List Cond := [Cond.fieldLink RX4 18 "TownBand$Tape" "draft" "LTownBand$Band;", Cond.fieldLink RX4 80 "TownBand$Tape" "start" "I", Cond.fieldLink RX4 103 "TownBand$Tape" "number" "I", Cond.methodLink RX4 83 yX4_refuse, Cond.instanceMethod yX4_refuse, Cond.selects RX4 yX4_refuse yX4_refuse, Cond.initialized RX4, Cond.code yX4_refuse cX4_refuse 3 (some .boolean), Cond.fieldLink RX4 26 "TownBand$Tape" "flaw" "I", Cond.fieldLink RX4 55 "TownBand$Tape" "flawPlace" "I", Cond.methodLink RX4 94 yX4_takeNumber, Cond.instanceMethod yX4_takeNumber, Cond.selects RX4 yX4_takeNumber yX4_takeNumber, Cond.code yX4_takeNumber cX4_takeNumber 3 (some .boolean), Cond.methodLink RX4 58 yX4_takeToken, Cond.instanceMethod yX4_takeToken, Cond.selects RX4 yX4_takeToken yX4_takeToken, Cond.code yX4_takeToken cX4_takeToken 2 (some .boolean), Cond.fieldLink RX4 39 "TownBand$Tape" "place" "I", Cond.fieldLink RX4 22 "TownBand$Tape" "length" "I", Cond.fieldLink RX4 9 "TownBand$Tape" "bytes" "[I", Cond.fieldLink RX4 61 "TownBand$Tape" "token" "I", Cond.static yX6_within, Cond.initialized RX6]
def wsX4_takeRobber_r2 : List Cond := [Cond.code yX6_within cX6_within 3 (some .boolean), Cond.methodLink RX4 141 yX4_passRun, Cond.instanceMethod yX4_passRun, Cond.selects RX4 yX4_passRun yX4_passRun, Cond.code yX4_passRun cX4_passRun 3 none, Cond.methodLink RX4 145 yX4_spellNumber, Cond.instanceMethod yX4_spellNumber, Cond.selects RX4 yX4_spellNumber yX4_spellNumber, Cond.code yX4_spellNumber cX4_spellNumber 2 (some .boolean), Cond.methodLink RX4 134 yX4_numberWithin, Cond.instanceMethod yX4_numberWithin, Cond.selects RX4 yX4_numberWithin yX4_numberWithin, Cond.code yX4_numberWithin cX4_numberWithin 3 (some .boolean), Cond.methodLink RX4 109 yX4_takeStop, Cond.instanceMethod yX4_takeStop, Cond.selects RX4 yX4_takeStop yX4_takeStop, Cond.code yX4_takeStop cX4_takeStop 1 (some .boolean)]
def wsX4_takeRobber : List Cond := .code yX4_takeRobber cX4_takeRobber 2 (some .boolean) :: ((wsX4_takeRobber_r1 ++ wsX4_takeRobber_r2) ++ wsX40 ++ wsX00)
def wsX4_isFirst : List Cond := .code yX4_isFirst cX4_isFirst 2 (some .boolean) :: ([.fieldLink RX4 42 "TownBand$Tape" "told" "I", .fieldLink RX4 80 "TownBand$Tape" "start" "I", .methodLink RX4 83 yX4_refuse, .instanceMethod yX4_refuse, .selects RX4 yX4_refuse yX4_refuse, .initialized RX4, .code yX4_refuse cX4_refuse 3 (some .boolean), .fieldLink RX4 26 "TownBand$Tape" "flaw" "I", .fieldLink RX4 55 "TownBand$Tape" "flawPlace" "I"] ++ wsX40)
def wsX4_takeScout_r1 : List Cond := [Cond.fieldLink RX4 18 "TownBand$Tape" "draft" "LTownBand$Band;", Cond.fieldLink RX4 103 "TownBand$Tape" "number" "I", Cond.methodLink RX4 118 yX4_isFirst, Cond.instanceMethod yX4_isFirst, Cond.selects RX4 yX4_isFirst yX4_isFirst, Cond.initialized RX4, Cond.code yX4_isFirst cX4_isFirst 2 (some .boolean), Cond.fieldLink RX4 42 "TownBand$Tape" "told" "I", Cond.fieldLink RX4 80 "TownBand$Tape" "start" "I", Cond.methodLink RX4 83 yX4_refuse, Cond.instanceMethod yX4_refuse, Cond.selects RX4 yX4_refuse yX4_refuse, Cond.code yX4_refuse cX4_refuse 3 (some .boolean), Cond.fieldLink RX4 26 "TownBand$Tape" "flaw" "I", Cond.fieldLink RX4 55 "TownBand$Tape" "flawPlace" "I", Cond.methodLink RX4 94 yX4_takeNumber, Cond.instanceMethod yX4_takeNumber, Cond.selects RX4 yX4_takeNumber yX4_takeNumber, Cond.code yX4_takeNumber cX4_takeNumber 3 (some .boolean), Cond.methodLink RX4 58 yX4_takeToken, Cond.instanceMethod yX4_takeToken, Cond.selects RX4 yX4_takeToken yX4_takeToken, Cond.code yX4_takeToken cX4_takeToken 2 (some .boolean), Cond.fieldLink RX4 39 "TownBand$Tape" "place" "I"]
def wsX4_takeScout_r2 : List Cond := [Cond.fieldLink RX4 22 "TownBand$Tape" "length" "I", Cond.fieldLink RX4 9 "TownBand$Tape" "bytes" "[I", Cond.fieldLink RX4 61 "TownBand$Tape" "token" "I", Cond.static yX6_within, Cond.initialized RX6, Cond.code yX6_within cX6_within 3 (some .boolean), Cond.methodLink RX4 141 yX4_passRun, Cond.instanceMethod yX4_passRun, Cond.selects RX4 yX4_passRun yX4_passRun, Cond.code yX4_passRun cX4_passRun 3 none, Cond.methodLink RX4 145 yX4_spellNumber, Cond.instanceMethod yX4_spellNumber, Cond.selects RX4 yX4_spellNumber yX4_spellNumber, Cond.code yX4_spellNumber cX4_spellNumber 2 (some .boolean), Cond.methodLink RX4 134 yX4_numberWithin, Cond.instanceMethod yX4_numberWithin, Cond.selects RX4 yX4_numberWithin yX4_numberWithin, Cond.code yX4_numberWithin cX4_numberWithin 3 (some .boolean), Cond.methodLink RX4 109 yX4_takeStop, Cond.instanceMethod yX4_takeStop, Cond.selects RX4 yX4_takeStop yX4_takeStop, Cond.code yX4_takeStop cX4_takeStop 1 (some .boolean)]
def wsX4_takeScout : List Cond := .code yX4_takeScout cX4_takeScout 1 (some .boolean) :: ((wsX4_takeScout_r1 ++ wsX4_takeScout_r2) ++ wsX40 ++ wsX00)
def wsX4_takeRow_r1 : List Cond := [Cond.fieldLink RX4 61 "TownBand$Tape" "token" "I", Cond.fieldLink RX4 103 "TownBand$Tape" "number" "I", Cond.fieldLink RX4 80 "TownBand$Tape" "start" "I", Cond.methodLink RX4 58 yX4_takeToken, Cond.instanceMethod yX4_takeToken, Cond.selects RX4 yX4_takeToken yX4_takeToken, Cond.initialized RX4, Cond.code yX4_takeToken cX4_takeToken 2 (some .boolean), Cond.fieldLink RX4 39 "TownBand$Tape" "place" "I", Cond.fieldLink RX4 22 "TownBand$Tape" "length" "I", Cond.fieldLink RX4 9 "TownBand$Tape" "bytes" "[I", Cond.static yX6_within, Cond.initialized RX6, Cond.code yX6_within cX6_within 3 (some .boolean), Cond.methodLink RX4 141 yX4_passRun, Cond.instanceMethod yX4_passRun, Cond.selects RX4 yX4_passRun yX4_passRun, Cond.code yX4_passRun cX4_passRun 3 none, Cond.methodLink RX4 145 yX4_spellNumber, Cond.instanceMethod yX4_spellNumber, Cond.selects RX4 yX4_spellNumber yX4_spellNumber, Cond.code yX4_spellNumber cX4_spellNumber 2 (some .boolean), Cond.methodLink RX4 83 yX4_refuse, Cond.instanceMethod yX4_refuse]
def wsX4_takeRow_r2 : List Cond := [Cond.selects RX4 yX4_refuse yX4_refuse, Cond.code yX4_refuse cX4_refuse 3 (some .boolean), Cond.fieldLink RX4 26 "TownBand$Tape" "flaw" "I", Cond.fieldLink RX4 55 "TownBand$Tape" "flawPlace" "I", Cond.methodLink RX4 134 yX4_numberWithin, Cond.instanceMethod yX4_numberWithin, Cond.selects RX4 yX4_numberWithin yX4_numberWithin, Cond.code yX4_numberWithin cX4_numberWithin 3 (some .boolean)]
def wsX4_takeRow : List Cond := .code yX4_takeRow cX4_takeRow 5 (some .int) :: ((wsX4_takeRow_r1 ++ wsX4_takeRow_r2) ++ wsX40)
def wsX4_takeTower_r1 : List Cond := [Cond.fieldLink RX4 18 "TownBand$Tape" "draft" "LTownBand$Band;", Cond.fieldLink RX4 26 "TownBand$Tape" "flaw" "I", Cond.methodLink RX4 118 yX4_isFirst, Cond.instanceMethod yX4_isFirst, Cond.selects RX4 yX4_isFirst yX4_isFirst, Cond.initialized RX4, Cond.code yX4_isFirst cX4_isFirst 2 (some .boolean), Cond.fieldLink RX4 42 "TownBand$Tape" "told" "I", Cond.fieldLink RX4 80 "TownBand$Tape" "start" "I", Cond.methodLink RX4 83 yX4_refuse, Cond.instanceMethod yX4_refuse, Cond.selects RX4 yX4_refuse yX4_refuse, Cond.code yX4_refuse cX4_refuse 3 (some .boolean), Cond.fieldLink RX4 55 "TownBand$Tape" "flawPlace" "I", Cond.methodLink RX4 127 yX4_takeRow, Cond.instanceMethod yX4_takeRow, Cond.selects RX4 yX4_takeRow yX4_takeRow, Cond.code yX4_takeRow cX4_takeRow 5 (some .int), Cond.fieldLink RX4 61 "TownBand$Tape" "token" "I", Cond.fieldLink RX4 103 "TownBand$Tape" "number" "I", Cond.methodLink RX4 58 yX4_takeToken, Cond.instanceMethod yX4_takeToken, Cond.selects RX4 yX4_takeToken yX4_takeToken, Cond.code yX4_takeToken cX4_takeToken 2 (some .boolean)]
def wsX4_takeTower_r2 : List Cond := [Cond.fieldLink RX4 39 "TownBand$Tape" "place" "I", Cond.fieldLink RX4 22 "TownBand$Tape" "length" "I", Cond.fieldLink RX4 9 "TownBand$Tape" "bytes" "[I", Cond.static yX6_within, Cond.initialized RX6, Cond.code yX6_within cX6_within 3 (some .boolean), Cond.methodLink RX4 141 yX4_passRun, Cond.instanceMethod yX4_passRun, Cond.selects RX4 yX4_passRun yX4_passRun, Cond.code yX4_passRun cX4_passRun 3 none, Cond.methodLink RX4 145 yX4_spellNumber, Cond.instanceMethod yX4_spellNumber, Cond.selects RX4 yX4_spellNumber yX4_spellNumber, Cond.code yX4_spellNumber cX4_spellNumber 2 (some .boolean), Cond.methodLink RX4 134 yX4_numberWithin, Cond.instanceMethod yX4_numberWithin, Cond.selects RX4 yX4_numberWithin yX4_numberWithin, Cond.code yX4_numberWithin cX4_numberWithin 3 (some .boolean)]
def wsX4_takeTower : List Cond := .code yX4_takeTower cX4_takeTower 1 (some .boolean) :: ((wsX4_takeTower_r1 ++ wsX4_takeTower_r2) ++ wsX40 ++ wsX00)
def wsX4_takeBeds_r1 : List Cond := [Cond.fieldLink RX4 18 "TownBand$Tape" "draft" "LTownBand$Band;", Cond.fieldLink RX4 45 "TownBand$Tape" "bedsTold" "I", Cond.fieldLink RX4 26 "TownBand$Tape" "flaw" "I", Cond.methodLink RX4 118 yX4_isFirst, Cond.instanceMethod yX4_isFirst, Cond.selects RX4 yX4_isFirst yX4_isFirst, Cond.initialized RX4, Cond.code yX4_isFirst cX4_isFirst 2 (some .boolean), Cond.fieldLink RX4 42 "TownBand$Tape" "told" "I", Cond.fieldLink RX4 80 "TownBand$Tape" "start" "I", Cond.methodLink RX4 83 yX4_refuse, Cond.instanceMethod yX4_refuse, Cond.selects RX4 yX4_refuse yX4_refuse, Cond.code yX4_refuse cX4_refuse 3 (some .boolean), Cond.fieldLink RX4 55 "TownBand$Tape" "flawPlace" "I", Cond.methodLink RX4 127 yX4_takeRow, Cond.instanceMethod yX4_takeRow, Cond.selects RX4 yX4_takeRow yX4_takeRow, Cond.code yX4_takeRow cX4_takeRow 5 (some .int), Cond.fieldLink RX4 61 "TownBand$Tape" "token" "I", Cond.fieldLink RX4 103 "TownBand$Tape" "number" "I", Cond.methodLink RX4 58 yX4_takeToken, Cond.instanceMethod yX4_takeToken, Cond.selects RX4 yX4_takeToken yX4_takeToken]
def wsX4_takeBeds_r2 : List Cond := [Cond.code yX4_takeToken cX4_takeToken 2 (some .boolean), Cond.fieldLink RX4 39 "TownBand$Tape" "place" "I", Cond.fieldLink RX4 22 "TownBand$Tape" "length" "I", Cond.fieldLink RX4 9 "TownBand$Tape" "bytes" "[I", Cond.static yX6_within, Cond.initialized RX6, Cond.code yX6_within cX6_within 3 (some .boolean), Cond.methodLink RX4 141 yX4_passRun, Cond.instanceMethod yX4_passRun, Cond.selects RX4 yX4_passRun yX4_passRun, Cond.code yX4_passRun cX4_passRun 3 none, Cond.methodLink RX4 145 yX4_spellNumber, Cond.instanceMethod yX4_spellNumber, Cond.selects RX4 yX4_spellNumber yX4_spellNumber, Cond.code yX4_spellNumber cX4_spellNumber 2 (some .boolean), Cond.methodLink RX4 134 yX4_numberWithin, Cond.instanceMethod yX4_numberWithin, Cond.selects RX4 yX4_numberWithin yX4_numberWithin, Cond.code yX4_numberWithin cX4_numberWithin 3 (some .boolean)]
def wsX4_takeBeds : List Cond := .code yX4_takeBeds cX4_takeBeds 1 (some .boolean) :: ((wsX4_takeBeds_r1 ++ wsX4_takeBeds_r2) ++ wsX40 ++ wsX00)
def wsX4_takeBeast_r1 : List Cond := [Cond.fieldLink RX4 18 "TownBand$Tape" "draft" "LTownBand$Band;", Cond.fieldLink RX4 80 "TownBand$Tape" "start" "I", Cond.fieldLink RX4 103 "TownBand$Tape" "number" "I", Cond.methodLink RX4 83 yX4_refuse, Cond.instanceMethod yX4_refuse, Cond.selects RX4 yX4_refuse yX4_refuse, Cond.initialized RX4, Cond.code yX4_refuse cX4_refuse 3 (some .boolean), Cond.fieldLink RX4 26 "TownBand$Tape" "flaw" "I", Cond.fieldLink RX4 55 "TownBand$Tape" "flawPlace" "I", Cond.methodLink RX4 94 yX4_takeNumber, Cond.instanceMethod yX4_takeNumber, Cond.selects RX4 yX4_takeNumber yX4_takeNumber, Cond.code yX4_takeNumber cX4_takeNumber 3 (some .boolean), Cond.methodLink RX4 58 yX4_takeToken, Cond.instanceMethod yX4_takeToken, Cond.selects RX4 yX4_takeToken yX4_takeToken, Cond.code yX4_takeToken cX4_takeToken 2 (some .boolean), Cond.fieldLink RX4 39 "TownBand$Tape" "place" "I", Cond.fieldLink RX4 22 "TownBand$Tape" "length" "I", Cond.fieldLink RX4 9 "TownBand$Tape" "bytes" "[I", Cond.fieldLink RX4 61 "TownBand$Tape" "token" "I", Cond.static yX6_within, Cond.initialized RX6]
def wsX4_takeBeast_r2 : List Cond := [Cond.code yX6_within cX6_within 3 (some .boolean), Cond.methodLink RX4 141 yX4_passRun, Cond.instanceMethod yX4_passRun, Cond.selects RX4 yX4_passRun yX4_passRun, Cond.code yX4_passRun cX4_passRun 3 none, Cond.methodLink RX4 145 yX4_spellNumber, Cond.instanceMethod yX4_spellNumber, Cond.selects RX4 yX4_spellNumber yX4_spellNumber, Cond.code yX4_spellNumber cX4_spellNumber 2 (some .boolean), Cond.methodLink RX4 134 yX4_numberWithin, Cond.instanceMethod yX4_numberWithin, Cond.selects RX4 yX4_numberWithin yX4_numberWithin, Cond.code yX4_numberWithin cX4_numberWithin 3 (some .boolean), Cond.methodLink RX4 109 yX4_takeStop, Cond.instanceMethod yX4_takeStop, Cond.selects RX4 yX4_takeStop yX4_takeStop, Cond.code yX4_takeStop cX4_takeStop 1 (some .boolean)]
def wsX4_takeBeast : List Cond := .code yX4_takeBeast cX4_takeBeast 3 (some .boolean) :: ((wsX4_takeBeast_r1 ++ wsX4_takeBeast_r2) ++ wsX40 ++ wsX00)
def wsX4_takeLine_r1 : List Cond := [Cond.fieldLink RX4 61 "TownBand$Tape" "token" "I", Cond.fieldLink RX4 80 "TownBand$Tape" "start" "I", Cond.methodLink RX4 58 yX4_takeToken, Cond.instanceMethod yX4_takeToken, Cond.selects RX4 yX4_takeToken yX4_takeToken, Cond.initialized RX4, Cond.code yX4_takeToken cX4_takeToken 2 (some .boolean), Cond.fieldLink RX4 39 "TownBand$Tape" "place" "I", Cond.fieldLink RX4 22 "TownBand$Tape" "length" "I", Cond.fieldLink RX4 9 "TownBand$Tape" "bytes" "[I", Cond.static yX6_within, Cond.initialized RX6, Cond.code yX6_within cX6_within 3 (some .boolean), Cond.methodLink RX4 141 yX4_passRun, Cond.instanceMethod yX4_passRun, Cond.selects RX4 yX4_passRun yX4_passRun, Cond.code yX4_passRun cX4_passRun 3 none, Cond.methodLink RX4 145 yX4_spellNumber, Cond.instanceMethod yX4_spellNumber, Cond.selects RX4 yX4_spellNumber yX4_spellNumber, Cond.code yX4_spellNumber cX4_spellNumber 2 (some .boolean), Cond.fieldLink RX4 103 "TownBand$Tape" "number" "I", Cond.methodLink RX4 83 yX4_refuse, Cond.instanceMethod yX4_refuse]
def wsX4_takeLine_r2 : List Cond := [Cond.selects RX4 yX4_refuse yX4_refuse, Cond.code yX4_refuse cX4_refuse 3 (some .boolean), Cond.fieldLink RX4 26 "TownBand$Tape" "flaw" "I", Cond.fieldLink RX4 55 "TownBand$Tape" "flawPlace" "I", Cond.methodLink RX4 64 yX4_wordRead, Cond.instanceMethod yX4_wordRead, Cond.selects RX4 yX4_wordRead yX4_wordRead, Cond.code yX4_wordRead cX4_wordRead 2 (some .int), Cond.methodLink RX4 148 yX4_spelling, Cond.static yX4_spelling, Cond.code yX4_spelling cX4_spelling 1 (some (.object "java/lang/String")), Cond.methodLink RX4 152 yX4_isSpelt, Cond.instanceMethod yX4_isSpelt, Cond.selects RX4 yX4_isSpelt yX4_isSpelt, Cond.code yX4_isSpelt cX4_isSpelt 3 (some .boolean), Cond.methodLink RX4 156 yJ0_length_8abf5, Cond.instanceMethod yJ0_length_8abf5, Cond.selects RJ0 yJ0_length_8abf5 yJ0_length_8abf5, Cond.initialized RJ0, Cond.code yJ0_length_8abf5 cJ0_length_8abf5 1 (some .int), Cond.fieldLink RJ0 9 "java/lang/String" "value" "[B", Cond.methodLink RJ0 335 yJ0_coder_7d493, Cond.instanceMethod yJ0_coder_7d493, Cond.selects RJ0 yJ0_coder_7d493 yJ0_coder_7d493]
def wsX4_takeLine_r3 : List Cond := [Cond.code yJ0_coder_7d493 cJ0_coder_7d493 1 (some .byte), Cond.fieldLink RJ0 38 "java/lang/String" "COMPACT_STRINGS" "Z", Cond.fieldLink RJ0 15 "java/lang/String" "coder" "B", Cond.methodLink RX4 160 yJ0_charAt_5068e, Cond.instanceMethod yJ0_charAt_5068e, Cond.selects RJ0 yJ0_charAt_5068e yJ0_charAt_5068e, Cond.code yJ0_charAt_5068e cJ0_charAt_5068e 2 (some .char), Cond.methodLink RJ0 492 yJ0_isLatin1_aae02, Cond.instanceMethod yJ0_isLatin1_aae02, Cond.selects RJ0 yJ0_isLatin1_aae02 yJ0_isLatin1_aae02, Cond.code yJ0_isLatin1_aae02 cJ0_isLatin1_aae02 1 (some .boolean), Cond.methodLink RJ0 495 yJ1_charAt_3b067, Cond.static yJ1_charAt_3b067, Cond.initialized RJ1, Cond.code yJ1_charAt_3b067 cJ1_charAt_3b067 2 (some .char), Cond.methodLink RJ1 9 yJ0_checkIndex_df160, Cond.static yJ0_checkIndex_df160, Cond.code yJ0_checkIndex_df160 cJ0_checkIndex_df160 2 none, Cond.fieldLink RJ0 1053 "jdk/internal/util/Preconditions" "SIOOBE_FORMATTER" "Ljava/util/function/BiFunction;", Cond.methodLink RJ0 1059 yJ3_checkIndex_8e157, Cond.static yJ3_checkIndex_8e157, Cond.initialized RJ3, Cond.code yJ3_checkIndex_8e157 cJ3_checkIndex_8e157 3 (some .int), Cond.methodLink RJ0 498 yJ2_charAt_3b067]
def wsX4_takeLine_r4 : List Cond := [Cond.static yJ2_charAt_3b067, Cond.initialized RJ2, Cond.code yJ2_charAt_3b067 cJ2_charAt_3b067 2 (some .char), Cond.methodLink RJ2 67 yJ2_checkIndex_2214a, Cond.static yJ2_checkIndex_2214a, Cond.code yJ2_checkIndex_2214a cJ2_checkIndex_2214a 2 none, Cond.methodLink RJ2 48 yJ2_length_9d52b, Cond.static yJ2_length_9d52b, Cond.code yJ2_length_9d52b cJ2_length_9d52b 1 (some .int), Cond.methodLink RJ2 414 yJ0_checkIndex_df160, Cond.methodLink RJ2 71 yJ2_getChar_3b067, Cond.static yJ2_getChar_3b067, Cond.code yJ2_getChar_3b067 cJ2_getChar_3b067 2 (some .char), Cond.fieldLink RJ2 44 "java/lang/StringUTF16" "$assertionsDisabled" "Z", Cond.fieldLink RJ2 59 "java/lang/StringUTF16" "HI_BYTE_SHIFT" "I", Cond.fieldLink RJ2 63 "java/lang/StringUTF16" "LO_BYTE_SHIFT" "I", Cond.methodLink RX4 68 yX4_takeRobber, Cond.instanceMethod yX4_takeRobber, Cond.selects RX4 yX4_takeRobber yX4_takeRobber, Cond.code yX4_takeRobber cX4_takeRobber 2 (some .boolean), Cond.fieldLink RX4 18 "TownBand$Tape" "draft" "LTownBand$Band;", Cond.methodLink RX4 94 yX4_takeNumber, Cond.instanceMethod yX4_takeNumber, Cond.selects RX4 yX4_takeNumber yX4_takeNumber]
def wsX4_takeLine_r5 : List Cond := [Cond.code yX4_takeNumber cX4_takeNumber 3 (some .boolean), Cond.methodLink RX4 134 yX4_numberWithin, Cond.instanceMethod yX4_numberWithin, Cond.selects RX4 yX4_numberWithin yX4_numberWithin, Cond.code yX4_numberWithin cX4_numberWithin 3 (some .boolean), Cond.methodLink RX4 109 yX4_takeStop, Cond.instanceMethod yX4_takeStop, Cond.selects RX4 yX4_takeStop yX4_takeStop, Cond.code yX4_takeStop cX4_takeStop 1 (some .boolean), Cond.methodLink RX4 71 yX4_takeScout, Cond.instanceMethod yX4_takeScout, Cond.selects RX4 yX4_takeScout yX4_takeScout, Cond.code yX4_takeScout cX4_takeScout 1 (some .boolean), Cond.methodLink RX4 118 yX4_isFirst, Cond.instanceMethod yX4_isFirst, Cond.selects RX4 yX4_isFirst yX4_isFirst, Cond.code yX4_isFirst cX4_isFirst 2 (some .boolean), Cond.fieldLink RX4 42 "TownBand$Tape" "told" "I", Cond.methodLink RX4 74 yX4_takeTower, Cond.instanceMethod yX4_takeTower, Cond.selects RX4 yX4_takeTower yX4_takeTower, Cond.code yX4_takeTower cX4_takeTower 1 (some .boolean), Cond.methodLink RX4 127 yX4_takeRow, Cond.instanceMethod yX4_takeRow]
def wsX4_takeLine_r6 : List Cond := [Cond.selects RX4 yX4_takeRow yX4_takeRow, Cond.code yX4_takeRow cX4_takeRow 5 (some .int), Cond.methodLink RX4 77 yX4_takeBeds, Cond.instanceMethod yX4_takeBeds, Cond.selects RX4 yX4_takeBeds yX4_takeBeds, Cond.code yX4_takeBeds cX4_takeBeds 1 (some .boolean), Cond.fieldLink RX4 45 "TownBand$Tape" "bedsTold" "I", Cond.methodLink RX4 87 yX4_takeBeast, Cond.instanceMethod yX4_takeBeast, Cond.selects RX4 yX4_takeBeast yX4_takeBeast, Cond.code yX4_takeBeast cX4_takeBeast 3 (some .boolean)]
def wsX4_takeLine : List Cond := .code yX4_takeLine cX4_takeLine 2 (some .boolean) :: ((wsX4_takeLine_r1 ++ (wsX4_takeLine_r2 ++ (wsX4_takeLine_r3 ++ (wsX4_takeLine_r4 ++ (wsX4_takeLine_r5 ++ wsX4_takeLine_r6))))) ++ wsX40 ++ wsX00)
def wsX4_areThere : List Cond := .code yX4_areThere cX4_areThere 4 (some .boolean) :: ([.fieldLink RX4 18 "TownBand$Tape" "draft" "LTownBand$Band;", .instanceMethod yX0_hasBeast, .initialized RX0, .selects RX0 yX0_hasBeast yX0_hasBeast, .code yX0_hasBeast cX0_hasBeast 2 (some .boolean), .fieldLink RX0 30 "TownBand$Band" "beasts" "I", .static yX6_within, .initialized RX6, .code yX6_within cX6_within 3 (some .boolean)] ++ wsX40 ++ wsX00)
def wsX4_lookAtWhole_r1 : List Cond := [Cond.fieldLink RX4 42 "TownBand$Tape" "told" "I", Cond.fieldLink RX4 18 "TownBand$Tape" "draft" "LTownBand$Band;", Cond.fieldLink RX4 45 "TownBand$Tape" "bedsTold" "I", Cond.fieldLink RX4 22 "TownBand$Tape" "length" "I", Cond.methodLink RX4 179 yX4_areThere, Cond.instanceMethod yX4_areThere, Cond.selects RX4 yX4_areThere yX4_areThere, Cond.initialized RX4, Cond.code yX4_areThere cX4_areThere 4 (some .boolean), Cond.instanceMethod yX0_hasBeast, Cond.initialized RX0, Cond.selects RX0 yX0_hasBeast yX0_hasBeast, Cond.code yX0_hasBeast cX0_hasBeast 2 (some .boolean), Cond.fieldLink RX0 30 "TownBand$Band" "beasts" "I", Cond.static yX6_within, Cond.initialized RX6, Cond.code yX6_within cX6_within 3 (some .boolean), Cond.methodLink RX4 83 yX4_refuse, Cond.instanceMethod yX4_refuse, Cond.selects RX4 yX4_refuse yX4_refuse, Cond.code yX4_refuse cX4_refuse 3 (some .boolean), Cond.fieldLink RX4 26 "TownBand$Tape" "flaw" "I", Cond.fieldLink RX4 55 "TownBand$Tape" "flawPlace" "I", Cond.instanceMethod yX0_stands]
def wsX4_lookAtWhole_r2 : List Cond := [Cond.selects RX0 yX0_stands yX0_stands, Cond.code yX0_stands cX0_stands 1 (some .boolean), Cond.fieldLink RX0 24 "TownBand$Band" "tower" "[I", Cond.fieldLink RX0 37 "TownBand$Band" "height" "I", Cond.methodLink RX0 57 yX0_carries, Cond.instanceMethod yX0_carries, Cond.selects RX0 yX0_carries yX0_carries, Cond.code yX0_carries cX0_carries 6 (some .boolean), Cond.fieldLink RX0 15 "TownBand$Band" "weights" "[I", Cond.methodLink RX0 65 yX0_bears, Cond.instanceMethod yX0_bears, Cond.selects RX0 yX0_bears yX0_bears, Cond.code yX0_bears cX0_bears 2 (some .int), Cond.fieldLink RX0 9 "TownBand$Band" "kinds" "[I", Cond.methodLink RX0 53 yX0_byKind, Cond.static yX0_byKind, Cond.code yX0_byKind cX0_byKind 2 (some .int)]
def wsX4_lookAtWhole : List Cond := .code yX4_lookAtWhole cX4_lookAtWhole 2 none :: ((wsX4_lookAtWhole_r1 ++ wsX4_lookAtWhole_r2) ++ wsX40 ++ wsX00)
def wsX4_tellAll_r1 : List Cond := [Cond.fieldLink RX4 18 "TownBand$Tape" "draft" "LTownBand$Band;", Cond.fieldLink RX4 39 "TownBand$Tape" "place" "I", Cond.fieldLink RX4 42 "TownBand$Tape" "told" "I", Cond.fieldLink RX4 45 "TownBand$Tape" "bedsTold" "I", Cond.fieldLink RX4 26 "TownBand$Tape" "flaw" "I", Cond.fieldLink RX4 55 "TownBand$Tape" "flawPlace" "I", Cond.instanceMethod yX0_clear, Cond.initialized RX0, Cond.selects RX0 yX0_clear yX0_clear, Cond.code yX0_clear cX0_clear 1 none, Cond.fieldLink RX0 30 "TownBand$Band" "beasts" "I", Cond.fieldLink RX0 34 "TownBand$Band" "robbers" "I", Cond.fieldLink RX0 37 "TownBand$Band" "height" "I", Cond.fieldLink RX0 40 "TownBand$Band" "nerve" "I", Cond.static yX6_fillByOrder, Cond.initialized RX6, Cond.code yX6_fillByOrder cX6_fillByOrder 2 none, Cond.methodLink RX4 48 yX4_takeLine, Cond.instanceMethod yX4_takeLine, Cond.selects RX4 yX4_takeLine yX4_takeLine, Cond.initialized RX4, Cond.code yX4_takeLine cX4_takeLine 2 (some .boolean), Cond.fieldLink RX4 61 "TownBand$Tape" "token" "I", Cond.fieldLink RX4 80 "TownBand$Tape" "start" "I"]
def wsX4_tellAll_r2 : List Cond := [Cond.methodLink RX4 58 yX4_takeToken, Cond.instanceMethod yX4_takeToken, Cond.selects RX4 yX4_takeToken yX4_takeToken, Cond.code yX4_takeToken cX4_takeToken 2 (some .boolean), Cond.fieldLink RX4 22 "TownBand$Tape" "length" "I", Cond.fieldLink RX4 9 "TownBand$Tape" "bytes" "[I", Cond.static yX6_within, Cond.code yX6_within cX6_within 3 (some .boolean), Cond.methodLink RX4 141 yX4_passRun, Cond.instanceMethod yX4_passRun, Cond.selects RX4 yX4_passRun yX4_passRun, Cond.code yX4_passRun cX4_passRun 3 none, Cond.methodLink RX4 145 yX4_spellNumber, Cond.instanceMethod yX4_spellNumber, Cond.selects RX4 yX4_spellNumber yX4_spellNumber, Cond.code yX4_spellNumber cX4_spellNumber 2 (some .boolean), Cond.fieldLink RX4 103 "TownBand$Tape" "number" "I", Cond.methodLink RX4 83 yX4_refuse, Cond.instanceMethod yX4_refuse, Cond.selects RX4 yX4_refuse yX4_refuse, Cond.code yX4_refuse cX4_refuse 3 (some .boolean), Cond.methodLink RX4 64 yX4_wordRead, Cond.instanceMethod yX4_wordRead, Cond.selects RX4 yX4_wordRead yX4_wordRead]
def wsX4_tellAll_r3 : List Cond := [Cond.code yX4_wordRead cX4_wordRead 2 (some .int), Cond.methodLink RX4 148 yX4_spelling, Cond.static yX4_spelling, Cond.code yX4_spelling cX4_spelling 1 (some (.object "java/lang/String")), Cond.methodLink RX4 152 yX4_isSpelt, Cond.instanceMethod yX4_isSpelt, Cond.selects RX4 yX4_isSpelt yX4_isSpelt, Cond.code yX4_isSpelt cX4_isSpelt 3 (some .boolean), Cond.methodLink RX4 156 yJ0_length_8abf5, Cond.instanceMethod yJ0_length_8abf5, Cond.selects RJ0 yJ0_length_8abf5 yJ0_length_8abf5, Cond.initialized RJ0, Cond.code yJ0_length_8abf5 cJ0_length_8abf5 1 (some .int), Cond.fieldLink RJ0 9 "java/lang/String" "value" "[B", Cond.methodLink RJ0 335 yJ0_coder_7d493, Cond.instanceMethod yJ0_coder_7d493, Cond.selects RJ0 yJ0_coder_7d493 yJ0_coder_7d493, Cond.code yJ0_coder_7d493 cJ0_coder_7d493 1 (some .byte), Cond.fieldLink RJ0 38 "java/lang/String" "COMPACT_STRINGS" "Z", Cond.fieldLink RJ0 15 "java/lang/String" "coder" "B", Cond.methodLink RX4 160 yJ0_charAt_5068e, Cond.instanceMethod yJ0_charAt_5068e, Cond.selects RJ0 yJ0_charAt_5068e yJ0_charAt_5068e, Cond.code yJ0_charAt_5068e cJ0_charAt_5068e 2 (some .char)]
def wsX4_tellAll_r4 : List Cond := [Cond.methodLink RJ0 492 yJ0_isLatin1_aae02, Cond.instanceMethod yJ0_isLatin1_aae02, Cond.selects RJ0 yJ0_isLatin1_aae02 yJ0_isLatin1_aae02, Cond.code yJ0_isLatin1_aae02 cJ0_isLatin1_aae02 1 (some .boolean), Cond.methodLink RJ0 495 yJ1_charAt_3b067, Cond.static yJ1_charAt_3b067, Cond.initialized RJ1, Cond.code yJ1_charAt_3b067 cJ1_charAt_3b067 2 (some .char), Cond.methodLink RJ1 9 yJ0_checkIndex_df160, Cond.static yJ0_checkIndex_df160, Cond.code yJ0_checkIndex_df160 cJ0_checkIndex_df160 2 none, Cond.fieldLink RJ0 1053 "jdk/internal/util/Preconditions" "SIOOBE_FORMATTER" "Ljava/util/function/BiFunction;", Cond.methodLink RJ0 1059 yJ3_checkIndex_8e157, Cond.static yJ3_checkIndex_8e157, Cond.initialized RJ3, Cond.code yJ3_checkIndex_8e157 cJ3_checkIndex_8e157 3 (some .int), Cond.methodLink RJ0 498 yJ2_charAt_3b067, Cond.static yJ2_charAt_3b067, Cond.initialized RJ2, Cond.code yJ2_charAt_3b067 cJ2_charAt_3b067 2 (some .char), Cond.methodLink RJ2 67 yJ2_checkIndex_2214a, Cond.static yJ2_checkIndex_2214a, Cond.code yJ2_checkIndex_2214a cJ2_checkIndex_2214a 2 none, Cond.methodLink RJ2 48 yJ2_length_9d52b]
def wsX4_tellAll_r5 : List Cond := [Cond.static yJ2_length_9d52b, Cond.code yJ2_length_9d52b cJ2_length_9d52b 1 (some .int), Cond.methodLink RJ2 414 yJ0_checkIndex_df160, Cond.methodLink RJ2 71 yJ2_getChar_3b067, Cond.static yJ2_getChar_3b067, Cond.code yJ2_getChar_3b067 cJ2_getChar_3b067 2 (some .char), Cond.fieldLink RJ2 44 "java/lang/StringUTF16" "$assertionsDisabled" "Z", Cond.fieldLink RJ2 59 "java/lang/StringUTF16" "HI_BYTE_SHIFT" "I", Cond.fieldLink RJ2 63 "java/lang/StringUTF16" "LO_BYTE_SHIFT" "I", Cond.methodLink RX4 68 yX4_takeRobber, Cond.instanceMethod yX4_takeRobber, Cond.selects RX4 yX4_takeRobber yX4_takeRobber, Cond.code yX4_takeRobber cX4_takeRobber 2 (some .boolean), Cond.methodLink RX4 94 yX4_takeNumber, Cond.instanceMethod yX4_takeNumber, Cond.selects RX4 yX4_takeNumber yX4_takeNumber, Cond.code yX4_takeNumber cX4_takeNumber 3 (some .boolean), Cond.methodLink RX4 134 yX4_numberWithin, Cond.instanceMethod yX4_numberWithin, Cond.selects RX4 yX4_numberWithin yX4_numberWithin, Cond.code yX4_numberWithin cX4_numberWithin 3 (some .boolean), Cond.methodLink RX4 109 yX4_takeStop, Cond.instanceMethod yX4_takeStop, Cond.selects RX4 yX4_takeStop yX4_takeStop]
def wsX4_tellAll_r6 : List Cond := [Cond.code yX4_takeStop cX4_takeStop 1 (some .boolean), Cond.methodLink RX4 71 yX4_takeScout, Cond.instanceMethod yX4_takeScout, Cond.selects RX4 yX4_takeScout yX4_takeScout, Cond.code yX4_takeScout cX4_takeScout 1 (some .boolean), Cond.methodLink RX4 118 yX4_isFirst, Cond.instanceMethod yX4_isFirst, Cond.selects RX4 yX4_isFirst yX4_isFirst, Cond.code yX4_isFirst cX4_isFirst 2 (some .boolean), Cond.methodLink RX4 74 yX4_takeTower, Cond.instanceMethod yX4_takeTower, Cond.selects RX4 yX4_takeTower yX4_takeTower, Cond.code yX4_takeTower cX4_takeTower 1 (some .boolean), Cond.methodLink RX4 127 yX4_takeRow, Cond.instanceMethod yX4_takeRow, Cond.selects RX4 yX4_takeRow yX4_takeRow, Cond.code yX4_takeRow cX4_takeRow 5 (some .int), Cond.methodLink RX4 77 yX4_takeBeds, Cond.instanceMethod yX4_takeBeds, Cond.selects RX4 yX4_takeBeds yX4_takeBeds, Cond.code yX4_takeBeds cX4_takeBeds 1 (some .boolean), Cond.methodLink RX4 87 yX4_takeBeast, Cond.instanceMethod yX4_takeBeast, Cond.selects RX4 yX4_takeBeast yX4_takeBeast]
def wsX4_tellAll_r7 : List Cond := [Cond.code yX4_takeBeast cX4_takeBeast 3 (some .boolean), Cond.methodLink RX4 52 yX4_lookAtWhole, Cond.instanceMethod yX4_lookAtWhole, Cond.selects RX4 yX4_lookAtWhole yX4_lookAtWhole, Cond.code yX4_lookAtWhole cX4_lookAtWhole 2 none, Cond.methodLink RX4 179 yX4_areThere, Cond.instanceMethod yX4_areThere, Cond.selects RX4 yX4_areThere yX4_areThere, Cond.code yX4_areThere cX4_areThere 4 (some .boolean), Cond.instanceMethod yX0_hasBeast, Cond.selects RX0 yX0_hasBeast yX0_hasBeast, Cond.code yX0_hasBeast cX0_hasBeast 2 (some .boolean), Cond.instanceMethod yX0_stands, Cond.selects RX0 yX0_stands yX0_stands, Cond.code yX0_stands cX0_stands 1 (some .boolean), Cond.fieldLink RX0 24 "TownBand$Band" "tower" "[I", Cond.methodLink RX0 57 yX0_carries, Cond.instanceMethod yX0_carries, Cond.selects RX0 yX0_carries yX0_carries, Cond.code yX0_carries cX0_carries 6 (some .boolean), Cond.fieldLink RX0 15 "TownBand$Band" "weights" "[I", Cond.methodLink RX0 65 yX0_bears, Cond.instanceMethod yX0_bears, Cond.selects RX0 yX0_bears yX0_bears]
def wsX4_tellAll_r8 : List Cond := [Cond.code yX0_bears cX0_bears 2 (some .int), Cond.fieldLink RX0 9 "TownBand$Band" "kinds" "[I", Cond.methodLink RX0 53 yX0_byKind, Cond.static yX0_byKind, Cond.code yX0_byKind cX0_byKind 2 (some .int)]
def wsX4_tellAll : List Cond := .code yX4_tellAll cX4_tellAll 2 (some .int) :: ((wsX4_tellAll_r1 ++ (wsX4_tellAll_r2 ++ (wsX4_tellAll_r3 ++ (wsX4_tellAll_r4 ++ (wsX4_tellAll_r5 ++ (wsX4_tellAll_r6 ++ (wsX4_tellAll_r7 ++ wsX4_tellAll_r8))))))) ++ wsX40 ++ wsX00)
def wsX5_init : List Cond := .code yX5_init cX5_init 1 none :: ([.methodLink RX5 3 objectInit, .instanceMethod objectInit, .code objectInit ⟨#[0xb1]⟩ 1 none, .arrayClass .int, .fieldLink RX5 9 "TownBand$Towers" "row" "[I", .fieldLink RX5 15 "TownBand$Towers" "found" "[I", .fieldLink RX5 18 "TownBand$Towers" "values" "[I"] ++ wsX50)
def wsJ6_bitCount_0f7a4 : List Cond := .code yJ6_bitCount_0f7a4 cJ6_bitCount_0f7a4 1 (some .int) :: ([.constant RJ6 265 (1431655765), .constant RJ6 266 (858993459), .constant RJ6 267 (252645135)])
def wsX5_weigh_r1 : List Cond := [Cond.fieldLink RX5 9 "TownBand$Towers" "row" "[I", Cond.fieldLink RX5 21 "TownBand$Towers" "total" "I", Cond.fieldLink RX5 18 "TownBand$Towers" "values" "[I", Cond.methodLink RX5 73 Lib.Math.max.name, Cond.static Lib.Math.max.name, Cond.initialized "java/lang/Math", Cond.code Lib.Math.max.name Lib.Math.max.code 2 (some .int), Cond.fieldLink RX5 28 "TownBand$Towers" "foundScore" "I", Cond.fieldLink RX5 25 "TownBand$Towers" "foundSize" "I", Cond.fieldLink RX5 31 "TownBand$Towers" "foundNoise" "I", Cond.fieldLink RX5 15 "TownBand$Towers" "found" "[I", Cond.methodLink RX5 82 arraycopyName, Cond.native arraycopyName, Cond.static arraycopyName, Cond.initialized "java/lang/System", Cond.instanceMethod yX0_noiseBy, Cond.initialized RX0, Cond.selects RX0 yX0_noiseBy yX0_noiseBy, Cond.code yX0_noiseBy cX0_noiseBy 6 (some .int), Cond.instanceMethod yX0_fledBits, Cond.selects RX0 yX0_fledBits yX0_fledBits, Cond.code yX0_fledBits cX0_fledBits 5 (some .int), Cond.fieldLink RX0 34 "TownBand$Band" "robbers" "I", Cond.fieldLink RX0 21 "TownBand$Band" "courages" "[I"]
def wsX5_weigh_r2 : List Cond := [Cond.methodLink RX5 68 yJ6_bitCount_0f7a4, Cond.static yJ6_bitCount_0f7a4, Cond.initialized RJ6, Cond.code yJ6_bitCount_0f7a4 cJ6_bitCount_0f7a4 1 (some .int), Cond.constant RJ6 265 (1431655765), Cond.constant RJ6 266 (858993459), Cond.constant RJ6 267 (252645135)]
def wsX5_weigh : List Cond := .code yX5_weigh cX5_weigh 8 none :: ((wsX5_weigh_r1 ++ wsX5_weigh_r2) ++ wsX50 ++ wsX00)
def wsX5_visit_r1 : List Cond := [Cond.fieldLink RX5 9 "TownBand$Towers" "row" "[I", Cond.methodLink RX5 41 yX5_weigh, Cond.instanceMethod yX5_weigh, Cond.selects RX5 yX5_weigh yX5_weigh, Cond.initialized RX5, Cond.code yX5_weigh cX5_weigh 8 none, Cond.fieldLink RX5 21 "TownBand$Towers" "total" "I", Cond.fieldLink RX5 18 "TownBand$Towers" "values" "[I", Cond.methodLink RX5 73 Lib.Math.max.name, Cond.static Lib.Math.max.name, Cond.initialized "java/lang/Math", Cond.code Lib.Math.max.name Lib.Math.max.code 2 (some .int), Cond.fieldLink RX5 28 "TownBand$Towers" "foundScore" "I", Cond.fieldLink RX5 25 "TownBand$Towers" "foundSize" "I", Cond.fieldLink RX5 31 "TownBand$Towers" "foundNoise" "I", Cond.fieldLink RX5 15 "TownBand$Towers" "found" "[I", Cond.methodLink RX5 82 arraycopyName, Cond.native arraycopyName, Cond.static arraycopyName, Cond.initialized "java/lang/System", Cond.instanceMethod yX0_noiseBy, Cond.initialized RX0, Cond.selects RX0 yX0_noiseBy yX0_noiseBy, Cond.code yX0_noiseBy cX0_noiseBy 6 (some .int)]
def wsX5_visit_r2 : List Cond := [Cond.instanceMethod yX0_fledBits, Cond.selects RX0 yX0_fledBits yX0_fledBits, Cond.code yX0_fledBits cX0_fledBits 5 (some .int), Cond.fieldLink RX0 34 "TownBand$Band" "robbers" "I", Cond.fieldLink RX0 21 "TownBand$Band" "courages" "[I", Cond.methodLink RX5 68 yJ6_bitCount_0f7a4, Cond.static yJ6_bitCount_0f7a4, Cond.initialized RJ6, Cond.code yJ6_bitCount_0f7a4 cJ6_bitCount_0f7a4 1 (some .int), Cond.constant RJ6 265 (1431655765), Cond.constant RJ6 266 (858993459), Cond.constant RJ6 267 (252645135), Cond.instanceMethod yX0_carries, Cond.selects RX0 yX0_carries yX0_carries, Cond.code yX0_carries cX0_carries 6 (some .boolean), Cond.fieldLink RX0 15 "TownBand$Band" "weights" "[I", Cond.methodLink RX0 65 yX0_bears, Cond.instanceMethod yX0_bears, Cond.selects RX0 yX0_bears yX0_bears, Cond.code yX0_bears cX0_bears 2 (some .int), Cond.fieldLink RX0 9 "TownBand$Band" "kinds" "[I", Cond.methodLink RX0 53 yX0_byKind, Cond.static yX0_byKind, Cond.code yX0_byKind cX0_byKind 2 (some .int)]
def wsX5_visit_r3 : List Cond := [Cond.methodLink RX5 34 yX5_visit, Cond.static yX5_visit]
def wsX5_visit : List Cond := .code yX5_visit cX5_visit 6 none :: ((wsX5_visit_r1 ++ (wsX5_visit_r2 ++ wsX5_visit_r3)) ++ wsX00 ++ wsX50)
def wsX5_spreadValues : List Cond := .code yX5_spreadValues cX5_spreadValues 3 none :: ([.fieldLink RX5 18 "TownBand$Towers" "values" "[I", .methodLink RX5 73 Lib.Math.max.name, .static Lib.Math.max.name, .initialized "java/lang/Math", .code Lib.Math.max.name Lib.Math.max.code 2 (some .int)] ++ wsX50)
def wsX5_walk_r1 : List Cond := [Cond.fieldLink RX5 18 "TownBand$Towers" "values" "[I", Cond.fieldLink RX5 21 "TownBand$Towers" "total" "I", Cond.fieldLink RX5 25 "TownBand$Towers" "foundSize" "I", Cond.fieldLink RX5 28 "TownBand$Towers" "foundScore" "I", Cond.fieldLink RX5 31 "TownBand$Towers" "foundNoise" "I", Cond.methodLink RX5 34 yX5_visit, Cond.static yX5_visit, Cond.initialized RX5, Cond.code yX5_visit cX5_visit 6 none, Cond.fieldLink RX5 9 "TownBand$Towers" "row" "[I", Cond.methodLink RX5 41 yX5_weigh, Cond.instanceMethod yX5_weigh, Cond.selects RX5 yX5_weigh yX5_weigh, Cond.code yX5_weigh cX5_weigh 8 none, Cond.methodLink RX5 73 Lib.Math.max.name, Cond.static Lib.Math.max.name, Cond.initialized "java/lang/Math", Cond.code Lib.Math.max.name Lib.Math.max.code 2 (some .int), Cond.fieldLink RX5 15 "TownBand$Towers" "found" "[I", Cond.methodLink RX5 82 arraycopyName, Cond.native arraycopyName, Cond.static arraycopyName, Cond.initialized "java/lang/System", Cond.instanceMethod yX0_noiseBy]
def wsX5_walk_r2 : List Cond := [Cond.initialized RX0, Cond.selects RX0 yX0_noiseBy yX0_noiseBy, Cond.code yX0_noiseBy cX0_noiseBy 6 (some .int), Cond.instanceMethod yX0_fledBits, Cond.selects RX0 yX0_fledBits yX0_fledBits, Cond.code yX0_fledBits cX0_fledBits 5 (some .int), Cond.fieldLink RX0 34 "TownBand$Band" "robbers" "I", Cond.fieldLink RX0 21 "TownBand$Band" "courages" "[I", Cond.methodLink RX5 68 yJ6_bitCount_0f7a4, Cond.static yJ6_bitCount_0f7a4, Cond.initialized RJ6, Cond.code yJ6_bitCount_0f7a4 cJ6_bitCount_0f7a4 1 (some .int), Cond.constant RJ6 265 (1431655765), Cond.constant RJ6 266 (858993459), Cond.constant RJ6 267 (252645135), Cond.instanceMethod yX0_carries, Cond.selects RX0 yX0_carries yX0_carries, Cond.code yX0_carries cX0_carries 6 (some .boolean), Cond.fieldLink RX0 15 "TownBand$Band" "weights" "[I", Cond.methodLink RX0 65 yX0_bears, Cond.instanceMethod yX0_bears, Cond.selects RX0 yX0_bears yX0_bears, Cond.code yX0_bears cX0_bears 2 (some .int), Cond.fieldLink RX0 9 "TownBand$Band" "kinds" "[I"]
def wsX5_walk_r3 : List Cond := [Cond.methodLink RX0 53 yX0_byKind, Cond.static yX0_byKind, Cond.code yX0_byKind cX0_byKind 2 (some .int), Cond.methodLink RX5 38 yX5_spreadValues, Cond.instanceMethod yX5_spreadValues, Cond.selects RX5 yX5_spreadValues yX5_spreadValues, Cond.code yX5_spreadValues cX5_spreadValues 3 none]
def wsX5_walk : List Cond := .code yX5_walk cX5_walk 4 none :: ((wsX5_walk_r1 ++ (wsX5_walk_r2 ++ wsX5_walk_r3)) ++ wsX50 ++ wsX00)
def wsX5_foundAt : List Cond := .code yX5_foundAt cX5_foundAt 2 (some .int) :: ([.fieldLink RX5 25 "TownBand$Towers" "foundSize" "I", .fieldLink RX5 15 "TownBand$Towers" "found" "[I", .static yX6_within, .initialized RX6, .code yX6_within cX6_within 3 (some .boolean)] ++ wsX50)
def wsX6_init_r1 : List Cond := [Cond.methodLink RX6 1 objectInit, Cond.instanceMethod objectInit, Cond.code objectInit ⟨#[0xb1]⟩ 1 none, Cond.classLink RX6 7 RX0, Cond.instantiable RX0 10, Cond.initialized RX0, Cond.fieldLink RX6 10 "TownBand" "band" "LTownBand$Band;", Cond.classLink RX6 16 RX4, Cond.instantiable RX4 11, Cond.initialized RX4, Cond.fieldLink RX6 19 "TownBand" "tape" "LTownBand$Tape;", Cond.classLink RX6 23 RX2, Cond.instantiable RX2 3, Cond.initialized RX2, Cond.fieldLink RX6 26 "TownBand" "seen" "LTownBand$Seen;", Cond.classLink RX6 30 RX5, Cond.instantiable RX5 7, Cond.initialized RX5, Cond.fieldLink RX6 33 "TownBand" "search" "LTownBand$Towers;", Cond.classLink RX6 37 RX1, Cond.instantiable RX1 6, Cond.initialized RX1, Cond.fieldLink RX6 40 "TownBand" "orders" "LTownBand$Orders;", Cond.fieldLink RX6 44 "TownBand" "images" "[LTownBand$Band;"]
def wsX6_init_r2 : List Cond := [Cond.arrayClass .boolean, Cond.fieldLink RX6 48 "TownBand" "kept" "[Z", Cond.classLink RX6 52 RX3, Cond.fieldLink RX6 54 "TownBand" "sheets" "[LTownBand$Sheet;", Cond.arrayClass .int, Cond.fieldLink RX6 58 "TownBand" "throats" "[I", Cond.fieldLink RX6 62 "TownBand" "tear" "I", Cond.instantiable RX3 3, Cond.initialized RX3, Cond.instanceMethod yX0_init, Cond.code yX0_init cX0_init 1 none, Cond.methodLink RX0 3 objectInit, Cond.fieldLink RX0 9 "TownBand$Band" "kinds" "[I", Cond.fieldLink RX0 15 "TownBand$Band" "weights" "[I", Cond.fieldLink RX0 18 "TownBand$Band" "voices" "[I", Cond.fieldLink RX0 21 "TownBand$Band" "courages" "[I", Cond.fieldLink RX0 24 "TownBand$Band" "tower" "[I", Cond.fieldLink RX0 27 "TownBand$Band" "bedRow" "[I", Cond.fieldLink RX0 30 "TownBand$Band" "beasts" "I", Cond.fieldLink RX0 34 "TownBand$Band" "robbers" "I", Cond.fieldLink RX0 37 "TownBand$Band" "height" "I", Cond.fieldLink RX0 40 "TownBand$Band" "nerve" "I", Cond.instanceMethod yX4_init, Cond.code yX4_init cX4_init 1 none]
def wsX6_init_r3 : List Cond := [Cond.methodLink RX4 3 objectInit, Cond.fieldLink RX4 9 "TownBand$Tape" "bytes" "[I", Cond.classLink RX4 15 RX0, Cond.fieldLink RX4 18 "TownBand$Tape" "draft" "LTownBand$Band;", Cond.fieldLink RX4 22 "TownBand$Tape" "length" "I", Cond.fieldLink RX4 26 "TownBand$Tape" "flaw" "I", Cond.instanceMethod yX2_init, Cond.code yX2_init cX2_init 1 none, Cond.methodLink RX2 3 objectInit, Cond.fieldLink RX2 9 "TownBand$Seen" "behind" "[I", Cond.fieldLink RX2 15 "TownBand$Seen" "hurt" "[I", Cond.fieldLink RX2 18 "TownBand$Seen" "size" "I", Cond.instanceMethod yX5_init, Cond.code yX5_init cX5_init 1 none, Cond.methodLink RX5 3 objectInit, Cond.fieldLink RX5 9 "TownBand$Towers" "row" "[I", Cond.fieldLink RX5 15 "TownBand$Towers" "found" "[I", Cond.fieldLink RX5 18 "TownBand$Towers" "values" "[I", Cond.instanceMethod yX1_init, Cond.code yX1_init cX1_init 1 none, Cond.methodLink RX1 3 objectInit, Cond.fieldLink RX1 9 "TownBand$Orders" "row" "[I", Cond.fieldLink RX1 15 "TownBand$Orders" "first" "[I", Cond.fieldLink RX1 18 "TownBand$Orders" "liers" "[I"]
def wsX6_init_r4 : List Cond := [Cond.fieldLink RX1 21 "TownBand$Orders" "tally" "[I", Cond.instanceMethod yX3_init, Cond.code yX3_init cX3_init 1 none, Cond.methodLink RX3 3 objectInit, Cond.fieldLink RX3 9 "TownBand$Sheet" "cells" "[I", Cond.fieldLink RX3 15 "TownBand$Sheet" "lane" "I", Cond.fieldLink RX3 19 "TownBand$Sheet" "size" "I"]
def wsX6_init : List Cond := .code yX6_init cX6_init 2 none :: ((wsX6_init_r1 ++ (wsX6_init_r2 ++ (wsX6_init_r3 ++ wsX6_init_r4))) ++ wsX00 ++ wsX60 ++ wsX40 ++ wsX20 ++ wsX50 ++ wsX10 ++ wsX30)
def wsX6_feed : List Cond := .code yX6_feed cX6_feed 2 (some .int) :: ([.fieldLink RX6 19 "TownBand" "tape" "LTownBand$Tape;", .methodLink RX6 67 yX6_within, .static yX6_within, .initialized RX6, .code yX6_within cX6_within 3 (some .boolean)] ++ wsX60 ++ wsX40)
def wsX6_end : List Cond := .code yX6_end cX6_end 3 (some .int) :: ([.fieldLink RX6 19 "TownBand" "tape" "LTownBand$Tape;", .methodLink RX6 67 yX6_within, .static yX6_within, .initialized RX6, .code yX6_within cX6_within 3 (some .boolean)] ++ wsX60 ++ wsX40)
def wsX6_text_r1 : List Cond := [Cond.fieldLink RX6 19 "TownBand" "tape" "LTownBand$Tape;", Cond.fieldLink RX6 10 "TownBand" "band" "LTownBand$Band;", Cond.fieldLink RX6 26 "TownBand" "seen" "LTownBand$Seen;", Cond.fieldLink RX6 48 "TownBand" "kept" "[Z", Cond.instanceMethod yX4_tellAll, Cond.initialized RX4, Cond.selects RX4 yX4_tellAll yX4_tellAll, Cond.code yX4_tellAll cX4_tellAll 2 (some .int), Cond.fieldLink RX4 18 "TownBand$Tape" "draft" "LTownBand$Band;", Cond.fieldLink RX4 39 "TownBand$Tape" "place" "I", Cond.fieldLink RX4 42 "TownBand$Tape" "told" "I", Cond.fieldLink RX4 45 "TownBand$Tape" "bedsTold" "I", Cond.fieldLink RX4 26 "TownBand$Tape" "flaw" "I", Cond.fieldLink RX4 55 "TownBand$Tape" "flawPlace" "I", Cond.instanceMethod yX0_clear, Cond.initialized RX0, Cond.selects RX0 yX0_clear yX0_clear, Cond.code yX0_clear cX0_clear 1 none, Cond.fieldLink RX0 30 "TownBand$Band" "beasts" "I", Cond.fieldLink RX0 34 "TownBand$Band" "robbers" "I", Cond.fieldLink RX0 37 "TownBand$Band" "height" "I", Cond.fieldLink RX0 40 "TownBand$Band" "nerve" "I", Cond.static yX6_fillByOrder, Cond.initialized RX6]
def wsX6_text_r2 : List Cond := [Cond.code yX6_fillByOrder cX6_fillByOrder 2 none, Cond.methodLink RX4 48 yX4_takeLine, Cond.instanceMethod yX4_takeLine, Cond.selects RX4 yX4_takeLine yX4_takeLine, Cond.code yX4_takeLine cX4_takeLine 2 (some .boolean), Cond.fieldLink RX4 61 "TownBand$Tape" "token" "I", Cond.fieldLink RX4 80 "TownBand$Tape" "start" "I", Cond.methodLink RX4 58 yX4_takeToken, Cond.instanceMethod yX4_takeToken, Cond.selects RX4 yX4_takeToken yX4_takeToken, Cond.code yX4_takeToken cX4_takeToken 2 (some .boolean), Cond.fieldLink RX4 22 "TownBand$Tape" "length" "I", Cond.fieldLink RX4 9 "TownBand$Tape" "bytes" "[I", Cond.static yX6_within, Cond.code yX6_within cX6_within 3 (some .boolean), Cond.methodLink RX4 141 yX4_passRun, Cond.instanceMethod yX4_passRun, Cond.selects RX4 yX4_passRun yX4_passRun, Cond.code yX4_passRun cX4_passRun 3 none, Cond.methodLink RX4 145 yX4_spellNumber, Cond.instanceMethod yX4_spellNumber, Cond.selects RX4 yX4_spellNumber yX4_spellNumber, Cond.code yX4_spellNumber cX4_spellNumber 2 (some .boolean), Cond.fieldLink RX4 103 "TownBand$Tape" "number" "I"]
def wsX6_text_r3 : List Cond := [Cond.methodLink RX4 83 yX4_refuse, Cond.instanceMethod yX4_refuse, Cond.selects RX4 yX4_refuse yX4_refuse, Cond.code yX4_refuse cX4_refuse 3 (some .boolean), Cond.methodLink RX4 64 yX4_wordRead, Cond.instanceMethod yX4_wordRead, Cond.selects RX4 yX4_wordRead yX4_wordRead, Cond.code yX4_wordRead cX4_wordRead 2 (some .int), Cond.methodLink RX4 148 yX4_spelling, Cond.static yX4_spelling, Cond.code yX4_spelling cX4_spelling 1 (some (.object "java/lang/String")), Cond.methodLink RX4 152 yX4_isSpelt, Cond.instanceMethod yX4_isSpelt, Cond.selects RX4 yX4_isSpelt yX4_isSpelt, Cond.code yX4_isSpelt cX4_isSpelt 3 (some .boolean), Cond.methodLink RX4 156 yJ0_length_8abf5, Cond.instanceMethod yJ0_length_8abf5, Cond.selects RJ0 yJ0_length_8abf5 yJ0_length_8abf5, Cond.initialized RJ0, Cond.code yJ0_length_8abf5 cJ0_length_8abf5 1 (some .int), Cond.fieldLink RJ0 9 "java/lang/String" "value" "[B", Cond.methodLink RJ0 335 yJ0_coder_7d493, Cond.instanceMethod yJ0_coder_7d493, Cond.selects RJ0 yJ0_coder_7d493 yJ0_coder_7d493]
def wsX6_text_r4 : List Cond := [Cond.code yJ0_coder_7d493 cJ0_coder_7d493 1 (some .byte), Cond.fieldLink RJ0 38 "java/lang/String" "COMPACT_STRINGS" "Z", Cond.fieldLink RJ0 15 "java/lang/String" "coder" "B", Cond.methodLink RX4 160 yJ0_charAt_5068e, Cond.instanceMethod yJ0_charAt_5068e, Cond.selects RJ0 yJ0_charAt_5068e yJ0_charAt_5068e, Cond.code yJ0_charAt_5068e cJ0_charAt_5068e 2 (some .char), Cond.methodLink RJ0 492 yJ0_isLatin1_aae02, Cond.instanceMethod yJ0_isLatin1_aae02, Cond.selects RJ0 yJ0_isLatin1_aae02 yJ0_isLatin1_aae02, Cond.code yJ0_isLatin1_aae02 cJ0_isLatin1_aae02 1 (some .boolean), Cond.methodLink RJ0 495 yJ1_charAt_3b067, Cond.static yJ1_charAt_3b067, Cond.initialized RJ1, Cond.code yJ1_charAt_3b067 cJ1_charAt_3b067 2 (some .char), Cond.methodLink RJ1 9 yJ0_checkIndex_df160, Cond.static yJ0_checkIndex_df160, Cond.code yJ0_checkIndex_df160 cJ0_checkIndex_df160 2 none, Cond.fieldLink RJ0 1053 "jdk/internal/util/Preconditions" "SIOOBE_FORMATTER" "Ljava/util/function/BiFunction;", Cond.methodLink RJ0 1059 yJ3_checkIndex_8e157, Cond.static yJ3_checkIndex_8e157, Cond.initialized RJ3, Cond.code yJ3_checkIndex_8e157 cJ3_checkIndex_8e157 3 (some .int), Cond.methodLink RJ0 498 yJ2_charAt_3b067]
def wsX6_text_r5 : List Cond := [Cond.static yJ2_charAt_3b067, Cond.initialized RJ2, Cond.code yJ2_charAt_3b067 cJ2_charAt_3b067 2 (some .char), Cond.methodLink RJ2 67 yJ2_checkIndex_2214a, Cond.static yJ2_checkIndex_2214a, Cond.code yJ2_checkIndex_2214a cJ2_checkIndex_2214a 2 none, Cond.methodLink RJ2 48 yJ2_length_9d52b, Cond.static yJ2_length_9d52b, Cond.code yJ2_length_9d52b cJ2_length_9d52b 1 (some .int), Cond.methodLink RJ2 414 yJ0_checkIndex_df160, Cond.methodLink RJ2 71 yJ2_getChar_3b067, Cond.static yJ2_getChar_3b067, Cond.code yJ2_getChar_3b067 cJ2_getChar_3b067 2 (some .char), Cond.fieldLink RJ2 44 "java/lang/StringUTF16" "$assertionsDisabled" "Z", Cond.fieldLink RJ2 59 "java/lang/StringUTF16" "HI_BYTE_SHIFT" "I", Cond.fieldLink RJ2 63 "java/lang/StringUTF16" "LO_BYTE_SHIFT" "I", Cond.methodLink RX4 68 yX4_takeRobber, Cond.instanceMethod yX4_takeRobber, Cond.selects RX4 yX4_takeRobber yX4_takeRobber, Cond.code yX4_takeRobber cX4_takeRobber 2 (some .boolean), Cond.methodLink RX4 94 yX4_takeNumber, Cond.instanceMethod yX4_takeNumber, Cond.selects RX4 yX4_takeNumber yX4_takeNumber, Cond.code yX4_takeNumber cX4_takeNumber 3 (some .boolean)]
def wsX6_text_r6 : List Cond := [Cond.methodLink RX4 134 yX4_numberWithin, Cond.instanceMethod yX4_numberWithin, Cond.selects RX4 yX4_numberWithin yX4_numberWithin, Cond.code yX4_numberWithin cX4_numberWithin 3 (some .boolean), Cond.methodLink RX4 109 yX4_takeStop, Cond.instanceMethod yX4_takeStop, Cond.selects RX4 yX4_takeStop yX4_takeStop, Cond.code yX4_takeStop cX4_takeStop 1 (some .boolean), Cond.methodLink RX4 71 yX4_takeScout, Cond.instanceMethod yX4_takeScout, Cond.selects RX4 yX4_takeScout yX4_takeScout, Cond.code yX4_takeScout cX4_takeScout 1 (some .boolean), Cond.methodLink RX4 118 yX4_isFirst, Cond.instanceMethod yX4_isFirst, Cond.selects RX4 yX4_isFirst yX4_isFirst, Cond.code yX4_isFirst cX4_isFirst 2 (some .boolean), Cond.methodLink RX4 74 yX4_takeTower, Cond.instanceMethod yX4_takeTower, Cond.selects RX4 yX4_takeTower yX4_takeTower, Cond.code yX4_takeTower cX4_takeTower 1 (some .boolean), Cond.methodLink RX4 127 yX4_takeRow, Cond.instanceMethod yX4_takeRow, Cond.selects RX4 yX4_takeRow yX4_takeRow, Cond.code yX4_takeRow cX4_takeRow 5 (some .int)]
def wsX6_text_r7 : List Cond := [Cond.methodLink RX4 77 yX4_takeBeds, Cond.instanceMethod yX4_takeBeds, Cond.selects RX4 yX4_takeBeds yX4_takeBeds, Cond.code yX4_takeBeds cX4_takeBeds 1 (some .boolean), Cond.methodLink RX4 87 yX4_takeBeast, Cond.instanceMethod yX4_takeBeast, Cond.selects RX4 yX4_takeBeast yX4_takeBeast, Cond.code yX4_takeBeast cX4_takeBeast 3 (some .boolean), Cond.methodLink RX4 52 yX4_lookAtWhole, Cond.instanceMethod yX4_lookAtWhole, Cond.selects RX4 yX4_lookAtWhole yX4_lookAtWhole, Cond.code yX4_lookAtWhole cX4_lookAtWhole 2 none, Cond.methodLink RX4 179 yX4_areThere, Cond.instanceMethod yX4_areThere, Cond.selects RX4 yX4_areThere yX4_areThere, Cond.code yX4_areThere cX4_areThere 4 (some .boolean), Cond.instanceMethod yX0_hasBeast, Cond.selects RX0 yX0_hasBeast yX0_hasBeast, Cond.code yX0_hasBeast cX0_hasBeast 2 (some .boolean), Cond.instanceMethod yX0_stands, Cond.selects RX0 yX0_stands yX0_stands, Cond.code yX0_stands cX0_stands 1 (some .boolean), Cond.fieldLink RX0 24 "TownBand$Band" "tower" "[I", Cond.methodLink RX0 57 yX0_carries]
def wsX6_text_r8 : List Cond := [Cond.instanceMethod yX0_carries, Cond.selects RX0 yX0_carries yX0_carries, Cond.code yX0_carries cX0_carries 6 (some .boolean), Cond.fieldLink RX0 15 "TownBand$Band" "weights" "[I", Cond.methodLink RX0 65 yX0_bears, Cond.instanceMethod yX0_bears, Cond.selects RX0 yX0_bears yX0_bears, Cond.code yX0_bears cX0_bears 2 (some .int), Cond.fieldLink RX0 9 "TownBand$Band" "kinds" "[I", Cond.methodLink RX0 53 yX0_byKind, Cond.static yX0_byKind, Cond.code yX0_byKind cX0_byKind 2 (some .int), Cond.instanceMethod yX0_copyFrom, Cond.selects RX0 yX0_copyFrom yX0_copyFrom, Cond.code yX0_copyFrom cX0_copyFrom 2 none, Cond.methodLink RX0 43 arraycopyName, Cond.native arraycopyName, Cond.static arraycopyName, Cond.initialized "java/lang/System", Cond.fieldLink RX0 18 "TownBand$Band" "voices" "[I", Cond.fieldLink RX0 21 "TownBand$Band" "courages" "[I", Cond.fieldLink RX0 27 "TownBand$Band" "bedRow" "[I"]
def wsX6_text : List Cond := .code yX6_text cX6_text 3 (some .int) :: ((wsX6_text_r1 ++ (wsX6_text_r2 ++ (wsX6_text_r3 ++ (wsX6_text_r4 ++ (wsX6_text_r5 ++ (wsX6_text_r6 ++ (wsX6_text_r7 ++ wsX6_text_r8))))))) ++ wsX60 ++ wsX40 ++ wsX20 ++ wsX00)
def wsX6_fault : List Cond := .code yX6_fault cX6_fault 1 (some .int) :: ([.fieldLink RX6 19 "TownBand" "tape" "LTownBand$Tape;"] ++ wsX60 ++ wsX40)
def wsX6_rule : List Cond := .code yX6_rule cX6_rule 2 (some .int) :: ([.fieldLink RX6 10 "TownBand" "band" "LTownBand$Band;", .instanceMethod yX0_towerBits, .initialized RX0, .selects RX0 yX0_towerBits yX0_towerBits, .code yX0_towerBits cX0_towerBits 3 (some .int), .fieldLink RX0 37 "TownBand$Band" "height" "I", .fieldLink RX0 24 "TownBand$Band" "tower" "[I"] ++ wsX60 ++ wsX00)
def wsX6_placeIn : List Cond := .code yX6_placeIn cX6_placeIn 4 (some .int) :: ([])
def wsX6_beast : List Cond := .code yX6_beast cX6_beast 3 (some .int) :: ([.fieldLink RX6 10 "TownBand" "band" "LTownBand$Band;", .instanceMethod yX0_hasBeast, .initialized RX0, .selects RX0 yX0_hasBeast yX0_hasBeast, .code yX0_hasBeast cX0_hasBeast 2 (some .boolean), .fieldLink RX0 30 "TownBand$Band" "beasts" "I", .static yX6_within, .initialized RX6, .code yX6_within cX6_within 3 (some .boolean), .instanceMethod yX0_bears, .selects RX0 yX0_bears yX0_bears, .code yX0_bears cX0_bears 2 (some .int), .fieldLink RX0 9 "TownBand$Band" "kinds" "[I", .fieldLink RX0 15 "TownBand$Band" "weights" "[I", .methodLink RX0 53 yX0_byKind, .static yX0_byKind, .code yX0_byKind cX0_byKind 2 (some .int), .instanceMethod yX0_hurts, .selects RX0 yX0_hurts yX0_hurts, .code yX0_hurts cX0_hurts 2 (some .int), .methodLink RX6 132 yX6_placeIn, .static yX6_placeIn, .code yX6_placeIn cX6_placeIn 4 (some .int)] ++ wsX60 ++ wsX00)
def wsX6_robber : List Cond := .code yX6_robber cX6_robber 2 (some .int) :: ([.fieldLink RX6 10 "TownBand" "band" "LTownBand$Band;", .instanceMethod yX0_hasRobber, .initialized RX0, .selects RX0 yX0_hasRobber yX0_hasRobber, .code yX0_hasRobber cX0_hasRobber 2 (some .boolean), .fieldLink RX0 34 "TownBand$Band" "robbers" "I", .static yX6_within, .initialized RX6, .code yX6_within cX6_within 3 (some .boolean)] ++ wsX60 ++ wsX00)
def wsX6_at : List Cond := .code yX6_at cX6_at 3 (some .int) :: ([.fieldLink RX6 10 "TownBand" "band" "LTownBand$Band;", .methodLink RX6 67 yX6_within, .static yX6_within, .initialized RX6, .code yX6_within cX6_within 3 (some .boolean)] ++ wsX60 ++ wsX00)
def wsX6_change : List Cond := .code yX6_change cX6_change 5 (some .int) :: ([.fieldLink RX6 10 "TownBand" "band" "LTownBand$Band;", .instanceMethod yX0_stands, .initialized RX0, .selects RX0 yX0_stands yX0_stands, .code yX0_stands cX0_stands 1 (some .boolean), .fieldLink RX0 24 "TownBand$Band" "tower" "[I", .fieldLink RX0 37 "TownBand$Band" "height" "I", .methodLink RX0 57 yX0_carries, .instanceMethod yX0_carries, .selects RX0 yX0_carries yX0_carries, .code yX0_carries cX0_carries 6 (some .boolean), .fieldLink RX0 15 "TownBand$Band" "weights" "[I", .methodLink RX0 65 yX0_bears, .instanceMethod yX0_bears, .selects RX0 yX0_bears yX0_bears, .code yX0_bears cX0_bears 2 (some .int), .fieldLink RX0 9 "TownBand$Band" "kinds" "[I", .methodLink RX0 53 yX0_byKind, .static yX0_byKind, .code yX0_byKind cX0_byKind 2 (some .int)] ++ wsX60 ++ wsX00)
def wsX6_alter_r1 : List Cond := [Cond.fieldLink RX6 10 "TownBand" "band" "LTownBand$Band;", Cond.instanceMethod yX0_hasBeast, Cond.initialized RX0, Cond.selects RX0 yX0_hasBeast yX0_hasBeast, Cond.code yX0_hasBeast cX0_hasBeast 2 (some .boolean), Cond.fieldLink RX0 30 "TownBand$Band" "beasts" "I", Cond.static yX6_within, Cond.initialized RX6, Cond.code yX6_within cX6_within 3 (some .boolean), Cond.methodLink RX6 67 yX6_within, Cond.methodLink RX6 145 yX6_change, Cond.instanceMethod yX6_change, Cond.selects RX6 yX6_change yX6_change, Cond.code yX6_change cX6_change 5 (some .int), Cond.instanceMethod yX0_stands, Cond.selects RX0 yX0_stands yX0_stands, Cond.code yX0_stands cX0_stands 1 (some .boolean), Cond.fieldLink RX0 24 "TownBand$Band" "tower" "[I", Cond.fieldLink RX0 37 "TownBand$Band" "height" "I", Cond.methodLink RX0 57 yX0_carries, Cond.instanceMethod yX0_carries, Cond.selects RX0 yX0_carries yX0_carries, Cond.code yX0_carries cX0_carries 6 (some .boolean), Cond.fieldLink RX0 15 "TownBand$Band" "weights" "[I"]
def wsX6_alter_r2 : List Cond := [Cond.methodLink RX0 65 yX0_bears, Cond.instanceMethod yX0_bears, Cond.selects RX0 yX0_bears yX0_bears, Cond.code yX0_bears cX0_bears 2 (some .int), Cond.fieldLink RX0 9 "TownBand$Band" "kinds" "[I", Cond.methodLink RX0 53 yX0_byKind, Cond.static yX0_byKind, Cond.code yX0_byKind cX0_byKind 2 (some .int)]
def wsX6_alter : List Cond := .code yX6_alter cX6_alter 4 (some .int) :: ((wsX6_alter_r1 ++ wsX6_alter_r2) ++ wsX60 ++ wsX00)
def wsX6_steel : List Cond := .code yX6_steel cX6_steel 4 (some .int) :: ([.fieldLink RX6 10 "TownBand" "band" "LTownBand$Band;", .instanceMethod yX0_hasRobber, .initialized RX0, .selects RX0 yX0_hasRobber yX0_hasRobber, .code yX0_hasRobber cX0_hasRobber 2 (some .boolean), .fieldLink RX0 34 "TownBand$Band" "robbers" "I", .static yX6_within, .initialized RX6, .code yX6_within cX6_within 3 (some .boolean), .methodLink RX6 67 yX6_within] ++ wsX60 ++ wsX00)
def wsX6_scout : List Cond := .code yX6_scout cX6_scout 3 (some .int) :: ([.fieldLink RX6 10 "TownBand" "band" "LTownBand$Band;", .methodLink RX6 67 yX6_within, .static yX6_within, .initialized RX6, .code yX6_within cX6_within 3 (some .boolean)] ++ wsX60 ++ wsX00)
def wsX6_mount_r1 : List Cond := [Cond.fieldLink RX6 10 "TownBand" "band" "LTownBand$Band;", Cond.instanceMethod yX0_hasBeast, Cond.initialized RX0, Cond.selects RX0 yX0_hasBeast yX0_hasBeast, Cond.code yX0_hasBeast cX0_hasBeast 2 (some .boolean), Cond.fieldLink RX0 30 "TownBand$Band" "beasts" "I", Cond.static yX6_within, Cond.initialized RX6, Cond.code yX6_within cX6_within 3 (some .boolean), Cond.instanceMethod yX0_canClimb, Cond.selects RX0 yX0_canClimb yX0_canClimb, Cond.code yX0_canClimb cX0_canClimb 2 (some .boolean), Cond.fieldLink RX0 37 "TownBand$Band" "height" "I", Cond.fieldLink RX0 24 "TownBand$Band" "tower" "[I", Cond.fieldLink RX0 15 "TownBand$Band" "weights" "[I", Cond.methodLink RX0 61 yX0_towerBits, Cond.instanceMethod yX0_towerBits, Cond.selects RX0 yX0_towerBits yX0_towerBits, Cond.code yX0_towerBits cX0_towerBits 3 (some .int), Cond.methodLink RX0 57 yX0_carries, Cond.instanceMethod yX0_carries, Cond.selects RX0 yX0_carries yX0_carries, Cond.code yX0_carries cX0_carries 6 (some .boolean), Cond.methodLink RX0 65 yX0_bears]
def wsX6_mount_r2 : List Cond := [Cond.instanceMethod yX0_bears, Cond.selects RX0 yX0_bears yX0_bears, Cond.code yX0_bears cX0_bears 2 (some .int), Cond.fieldLink RX0 9 "TownBand$Band" "kinds" "[I", Cond.methodLink RX0 53 yX0_byKind, Cond.static yX0_byKind, Cond.code yX0_byKind cX0_byKind 2 (some .int)]
def wsX6_mount : List Cond := .code yX6_mount cX6_mount 2 (some .int) :: ((wsX6_mount_r1 ++ wsX6_mount_r2) ++ wsX60 ++ wsX00)
def wsX6_climb_r1 : List Cond := [Cond.methodLink RX6 152 yX6_mount, Cond.instanceMethod yX6_mount, Cond.selects RX6 yX6_mount yX6_mount, Cond.initialized RX6, Cond.code yX6_mount cX6_mount 2 (some .int), Cond.fieldLink RX6 10 "TownBand" "band" "LTownBand$Band;", Cond.instanceMethod yX0_hasBeast, Cond.initialized RX0, Cond.selects RX0 yX0_hasBeast yX0_hasBeast, Cond.code yX0_hasBeast cX0_hasBeast 2 (some .boolean), Cond.fieldLink RX0 30 "TownBand$Band" "beasts" "I", Cond.static yX6_within, Cond.code yX6_within cX6_within 3 (some .boolean), Cond.instanceMethod yX0_canClimb, Cond.selects RX0 yX0_canClimb yX0_canClimb, Cond.code yX0_canClimb cX0_canClimb 2 (some .boolean), Cond.fieldLink RX0 37 "TownBand$Band" "height" "I", Cond.fieldLink RX0 24 "TownBand$Band" "tower" "[I", Cond.fieldLink RX0 15 "TownBand$Band" "weights" "[I", Cond.methodLink RX0 61 yX0_towerBits, Cond.instanceMethod yX0_towerBits, Cond.selects RX0 yX0_towerBits yX0_towerBits, Cond.code yX0_towerBits cX0_towerBits 3 (some .int), Cond.methodLink RX0 57 yX0_carries]
def wsX6_climb_r2 : List Cond := [Cond.instanceMethod yX0_carries, Cond.selects RX0 yX0_carries yX0_carries, Cond.code yX0_carries cX0_carries 6 (some .boolean), Cond.methodLink RX0 65 yX0_bears, Cond.instanceMethod yX0_bears, Cond.selects RX0 yX0_bears yX0_bears, Cond.code yX0_bears cX0_bears 2 (some .int), Cond.fieldLink RX0 9 "TownBand$Band" "kinds" "[I", Cond.methodLink RX0 53 yX0_byKind, Cond.static yX0_byKind, Cond.code yX0_byKind cX0_byKind 2 (some .int)]
def wsX6_climb : List Cond := .code yX6_climb cX6_climb 2 (some .int) :: ((wsX6_climb_r1 ++ wsX6_climb_r2) ++ wsX60 ++ wsX00)
def wsX6_down : List Cond := .code yX6_down cX6_down 3 (some .int) :: ([.fieldLink RX6 10 "TownBand" "band" "LTownBand$Band;", .methodLink RX6 67 yX6_within, .static yX6_within, .initialized RX6, .code yX6_within cX6_within 3 (some .boolean)] ++ wsX60 ++ wsX00)
def wsX6_swap : List Cond := .code yX6_swap cX6_swap 4 (some .int) :: ([.fieldLink RX6 10 "TownBand" "band" "LTownBand$Band;", .methodLink RX6 67 yX6_within, .static yX6_within, .initialized RX6, .code yX6_within cX6_within 3 (some .boolean), .methodLink RX6 158 yX6_exchange, .static yX6_exchange, .code yX6_exchange cX6_exchange 4 none] ++ wsX60 ++ wsX00)
def wsX6_noise : List Cond := .code yX6_noise cX6_noise 1 (some .int) :: ([.fieldLink RX6 10 "TownBand" "band" "LTownBand$Band;", .instanceMethod yX0_noiseBy, .initialized RX0, .selects RX0 yX0_noiseBy yX0_noiseBy, .code yX0_noiseBy cX0_noiseBy 6 (some .int)] ++ wsX60 ++ wsX00)
def wsX6_flight : List Cond := .code yX6_flight cX6_flight 3 (some .int) :: ([.fieldLink RX6 10 "TownBand" "band" "LTownBand$Band;", .methodLink RX6 67 yX6_within, .static yX6_within, .initialized RX6, .code yX6_within cX6_within 3 (some .boolean), .instanceMethod yX0_noiseBy, .initialized RX0, .selects RX0 yX0_noiseBy yX0_noiseBy, .code yX0_noiseBy cX0_noiseBy 6 (some .int), .instanceMethod yX0_fledBits, .selects RX0 yX0_fledBits yX0_fledBits, .code yX0_fledBits cX0_fledBits 5 (some .int), .fieldLink RX0 34 "TownBand$Band" "robbers" "I", .fieldLink RX0 21 "TownBand$Band" "courages" "[I", .methodLink RX6 169 yJ6_bitCount_0f7a4, .static yJ6_bitCount_0f7a4, .initialized RJ6, .code yJ6_bitCount_0f7a4 cJ6_bitCount_0f7a4 1 (some .int), .constant RJ6 265 (1431655765), .constant RJ6 266 (858993459), .constant RJ6 267 (252645135)] ++ wsX60 ++ wsX00)
def wsX6_free : List Cond := .code yX6_free cX6_free 3 (some .int) :: ([.fieldLink RX6 10 "TownBand" "band" "LTownBand$Band;", .instanceMethod yX0_canClimb, .initialized RX0, .selects RX0 yX0_canClimb yX0_canClimb, .code yX0_canClimb cX0_canClimb 2 (some .boolean), .fieldLink RX0 37 "TownBand$Band" "height" "I", .fieldLink RX0 24 "TownBand$Band" "tower" "[I", .fieldLink RX0 15 "TownBand$Band" "weights" "[I", .methodLink RX0 61 yX0_towerBits, .instanceMethod yX0_towerBits, .selects RX0 yX0_towerBits yX0_towerBits, .code yX0_towerBits cX0_towerBits 3 (some .int), .methodLink RX0 57 yX0_carries, .instanceMethod yX0_carries, .selects RX0 yX0_carries yX0_carries, .code yX0_carries cX0_carries 6 (some .boolean), .methodLink RX0 65 yX0_bears, .instanceMethod yX0_bears, .selects RX0 yX0_bears yX0_bears, .code yX0_bears cX0_bears 2 (some .int), .fieldLink RX0 9 "TownBand$Band" "kinds" "[I", .methodLink RX0 53 yX0_byKind, .static yX0_byKind, .code yX0_byKind cX0_byKind 2 (some .int)] ++ wsX60 ++ wsX00)
def wsX6_need : List Cond := .code yX6_need cX6_need 3 (some .int) :: ([.fieldLink RX6 10 "TownBand" "band" "LTownBand$Band;", .methodLink RX6 174 Lib.Math.max.name, .static Lib.Math.max.name, .initialized "java/lang/Math", .code Lib.Math.max.name Lib.Math.max.code 2 (some .int)] ++ wsX60 ++ wsX00)
def wsX6_isPlace : List Cond := .code yX6_isPlace cX6_isPlace 1 (some .boolean) :: ([.methodLink RX6 67 yX6_within, .static yX6_within, .initialized RX6, .code yX6_within cX6_within 3 (some .boolean)])
def wsX6_best_r1 : List Cond := [Cond.fieldLink RX6 33 "TownBand" "search" "LTownBand$Towers;", Cond.fieldLink RX6 10 "TownBand" "band" "LTownBand$Band;", Cond.methodLink RX6 67 yX6_within, Cond.static yX6_within, Cond.initialized RX6, Cond.code yX6_within cX6_within 3 (some .boolean), Cond.methodLink RX6 180 yX6_isPlace, Cond.static yX6_isPlace, Cond.code yX6_isPlace cX6_isPlace 1 (some .boolean), Cond.instanceMethod yX5_walk, Cond.initialized RX5, Cond.selects RX5 yX5_walk yX5_walk, Cond.code yX5_walk cX5_walk 4 none, Cond.fieldLink RX5 18 "TownBand$Towers" "values" "[I", Cond.fieldLink RX5 21 "TownBand$Towers" "total" "I", Cond.fieldLink RX5 25 "TownBand$Towers" "foundSize" "I", Cond.fieldLink RX5 28 "TownBand$Towers" "foundScore" "I", Cond.fieldLink RX5 31 "TownBand$Towers" "foundNoise" "I", Cond.methodLink RX5 34 yX5_visit, Cond.static yX5_visit, Cond.code yX5_visit cX5_visit 6 none, Cond.fieldLink RX5 9 "TownBand$Towers" "row" "[I", Cond.methodLink RX5 41 yX5_weigh, Cond.instanceMethod yX5_weigh]
def wsX6_best_r2 : List Cond := [Cond.selects RX5 yX5_weigh yX5_weigh, Cond.code yX5_weigh cX5_weigh 8 none, Cond.methodLink RX5 73 Lib.Math.max.name, Cond.static Lib.Math.max.name, Cond.initialized "java/lang/Math", Cond.code Lib.Math.max.name Lib.Math.max.code 2 (some .int), Cond.fieldLink RX5 15 "TownBand$Towers" "found" "[I", Cond.methodLink RX5 82 arraycopyName, Cond.native arraycopyName, Cond.static arraycopyName, Cond.initialized "java/lang/System", Cond.instanceMethod yX0_noiseBy, Cond.initialized RX0, Cond.selects RX0 yX0_noiseBy yX0_noiseBy, Cond.code yX0_noiseBy cX0_noiseBy 6 (some .int), Cond.instanceMethod yX0_fledBits, Cond.selects RX0 yX0_fledBits yX0_fledBits, Cond.code yX0_fledBits cX0_fledBits 5 (some .int), Cond.fieldLink RX0 34 "TownBand$Band" "robbers" "I", Cond.fieldLink RX0 21 "TownBand$Band" "courages" "[I", Cond.methodLink RX5 68 yJ6_bitCount_0f7a4, Cond.static yJ6_bitCount_0f7a4, Cond.initialized RJ6, Cond.code yJ6_bitCount_0f7a4 cJ6_bitCount_0f7a4 1 (some .int)]
def wsX6_best_r3 : List Cond := [Cond.constant RJ6 265 (1431655765), Cond.constant RJ6 266 (858993459), Cond.constant RJ6 267 (252645135), Cond.instanceMethod yX0_carries, Cond.selects RX0 yX0_carries yX0_carries, Cond.code yX0_carries cX0_carries 6 (some .boolean), Cond.fieldLink RX0 15 "TownBand$Band" "weights" "[I", Cond.methodLink RX0 65 yX0_bears, Cond.instanceMethod yX0_bears, Cond.selects RX0 yX0_bears yX0_bears, Cond.code yX0_bears cX0_bears 2 (some .int), Cond.fieldLink RX0 9 "TownBand$Band" "kinds" "[I", Cond.methodLink RX0 53 yX0_byKind, Cond.static yX0_byKind, Cond.code yX0_byKind cX0_byKind 2 (some .int), Cond.methodLink RX5 38 yX5_spreadValues, Cond.instanceMethod yX5_spreadValues, Cond.selects RX5 yX5_spreadValues yX5_spreadValues, Cond.code yX5_spreadValues cX5_spreadValues 3 none, Cond.instanceMethod yX5_foundAt, Cond.selects RX5 yX5_foundAt yX5_foundAt, Cond.code yX5_foundAt cX5_foundAt 2 (some .int)]
def wsX6_best : List Cond := .code yX6_best cX6_best 2 (some .int) :: ((wsX6_best_r1 ++ (wsX6_best_r2 ++ wsX6_best_r3)) ++ wsX60 ++ wsX50 ++ wsX00)
def wsX6_few_r1 : List Cond := [Cond.fieldLink RX6 33 "TownBand" "search" "LTownBand$Towers;", Cond.fieldLink RX6 10 "TownBand" "band" "LTownBand$Band;", Cond.methodLink RX6 67 yX6_within, Cond.static yX6_within, Cond.initialized RX6, Cond.code yX6_within cX6_within 3 (some .boolean), Cond.methodLink RX6 180 yX6_isPlace, Cond.static yX6_isPlace, Cond.code yX6_isPlace cX6_isPlace 1 (some .boolean), Cond.instanceMethod yX5_walk, Cond.initialized RX5, Cond.selects RX5 yX5_walk yX5_walk, Cond.code yX5_walk cX5_walk 4 none, Cond.fieldLink RX5 18 "TownBand$Towers" "values" "[I", Cond.fieldLink RX5 21 "TownBand$Towers" "total" "I", Cond.fieldLink RX5 25 "TownBand$Towers" "foundSize" "I", Cond.fieldLink RX5 28 "TownBand$Towers" "foundScore" "I", Cond.fieldLink RX5 31 "TownBand$Towers" "foundNoise" "I", Cond.methodLink RX5 34 yX5_visit, Cond.static yX5_visit, Cond.code yX5_visit cX5_visit 6 none, Cond.fieldLink RX5 9 "TownBand$Towers" "row" "[I", Cond.methodLink RX5 41 yX5_weigh, Cond.instanceMethod yX5_weigh]
def wsX6_few_r2 : List Cond := [Cond.selects RX5 yX5_weigh yX5_weigh, Cond.code yX5_weigh cX5_weigh 8 none, Cond.methodLink RX5 73 Lib.Math.max.name, Cond.static Lib.Math.max.name, Cond.initialized "java/lang/Math", Cond.code Lib.Math.max.name Lib.Math.max.code 2 (some .int), Cond.fieldLink RX5 15 "TownBand$Towers" "found" "[I", Cond.methodLink RX5 82 arraycopyName, Cond.native arraycopyName, Cond.static arraycopyName, Cond.initialized "java/lang/System", Cond.instanceMethod yX0_noiseBy, Cond.initialized RX0, Cond.selects RX0 yX0_noiseBy yX0_noiseBy, Cond.code yX0_noiseBy cX0_noiseBy 6 (some .int), Cond.instanceMethod yX0_fledBits, Cond.selects RX0 yX0_fledBits yX0_fledBits, Cond.code yX0_fledBits cX0_fledBits 5 (some .int), Cond.fieldLink RX0 34 "TownBand$Band" "robbers" "I", Cond.fieldLink RX0 21 "TownBand$Band" "courages" "[I", Cond.methodLink RX5 68 yJ6_bitCount_0f7a4, Cond.static yJ6_bitCount_0f7a4, Cond.initialized RJ6, Cond.code yJ6_bitCount_0f7a4 cJ6_bitCount_0f7a4 1 (some .int)]
def wsX6_few_r3 : List Cond := [Cond.constant RJ6 265 (1431655765), Cond.constant RJ6 266 (858993459), Cond.constant RJ6 267 (252645135), Cond.instanceMethod yX0_carries, Cond.selects RX0 yX0_carries yX0_carries, Cond.code yX0_carries cX0_carries 6 (some .boolean), Cond.fieldLink RX0 15 "TownBand$Band" "weights" "[I", Cond.methodLink RX0 65 yX0_bears, Cond.instanceMethod yX0_bears, Cond.selects RX0 yX0_bears yX0_bears, Cond.code yX0_bears cX0_bears 2 (some .int), Cond.fieldLink RX0 9 "TownBand$Band" "kinds" "[I", Cond.methodLink RX0 53 yX0_byKind, Cond.static yX0_byKind, Cond.code yX0_byKind cX0_byKind 2 (some .int), Cond.methodLink RX5 38 yX5_spreadValues, Cond.instanceMethod yX5_spreadValues, Cond.selects RX5 yX5_spreadValues yX5_spreadValues, Cond.code yX5_spreadValues cX5_spreadValues 3 none, Cond.instanceMethod yX5_foundAt, Cond.selects RX5 yX5_foundAt yX5_foundAt, Cond.code yX5_foundAt cX5_foundAt 2 (some .int)]
def wsX6_few : List Cond := .code yX6_few cX6_few 2 (some .int) :: ((wsX6_few_r1 ++ (wsX6_few_r2 ++ wsX6_few_r3)) ++ wsX60 ++ wsX50 ++ wsX00)
def wsX6_loud_r1 : List Cond := [Cond.fieldLink RX6 33 "TownBand" "search" "LTownBand$Towers;", Cond.fieldLink RX6 10 "TownBand" "band" "LTownBand$Band;", Cond.methodLink RX6 67 yX6_within, Cond.static yX6_within, Cond.initialized RX6, Cond.code yX6_within cX6_within 3 (some .boolean), Cond.methodLink RX6 180 yX6_isPlace, Cond.static yX6_isPlace, Cond.code yX6_isPlace cX6_isPlace 1 (some .boolean), Cond.instanceMethod yX5_walk, Cond.initialized RX5, Cond.selects RX5 yX5_walk yX5_walk, Cond.code yX5_walk cX5_walk 4 none, Cond.fieldLink RX5 18 "TownBand$Towers" "values" "[I", Cond.fieldLink RX5 21 "TownBand$Towers" "total" "I", Cond.fieldLink RX5 25 "TownBand$Towers" "foundSize" "I", Cond.fieldLink RX5 28 "TownBand$Towers" "foundScore" "I", Cond.fieldLink RX5 31 "TownBand$Towers" "foundNoise" "I", Cond.methodLink RX5 34 yX5_visit, Cond.static yX5_visit, Cond.code yX5_visit cX5_visit 6 none, Cond.fieldLink RX5 9 "TownBand$Towers" "row" "[I", Cond.methodLink RX5 41 yX5_weigh, Cond.instanceMethod yX5_weigh]
def wsX6_loud_r2 : List Cond := [Cond.selects RX5 yX5_weigh yX5_weigh, Cond.code yX5_weigh cX5_weigh 8 none, Cond.methodLink RX5 73 Lib.Math.max.name, Cond.static Lib.Math.max.name, Cond.initialized "java/lang/Math", Cond.code Lib.Math.max.name Lib.Math.max.code 2 (some .int), Cond.fieldLink RX5 15 "TownBand$Towers" "found" "[I", Cond.methodLink RX5 82 arraycopyName, Cond.native arraycopyName, Cond.static arraycopyName, Cond.initialized "java/lang/System", Cond.instanceMethod yX0_noiseBy, Cond.initialized RX0, Cond.selects RX0 yX0_noiseBy yX0_noiseBy, Cond.code yX0_noiseBy cX0_noiseBy 6 (some .int), Cond.instanceMethod yX0_fledBits, Cond.selects RX0 yX0_fledBits yX0_fledBits, Cond.code yX0_fledBits cX0_fledBits 5 (some .int), Cond.fieldLink RX0 34 "TownBand$Band" "robbers" "I", Cond.fieldLink RX0 21 "TownBand$Band" "courages" "[I", Cond.methodLink RX5 68 yJ6_bitCount_0f7a4, Cond.static yJ6_bitCount_0f7a4, Cond.initialized RJ6, Cond.code yJ6_bitCount_0f7a4 cJ6_bitCount_0f7a4 1 (some .int)]
def wsX6_loud_r3 : List Cond := [Cond.constant RJ6 265 (1431655765), Cond.constant RJ6 266 (858993459), Cond.constant RJ6 267 (252645135), Cond.instanceMethod yX0_carries, Cond.selects RX0 yX0_carries yX0_carries, Cond.code yX0_carries cX0_carries 6 (some .boolean), Cond.fieldLink RX0 15 "TownBand$Band" "weights" "[I", Cond.methodLink RX0 65 yX0_bears, Cond.instanceMethod yX0_bears, Cond.selects RX0 yX0_bears yX0_bears, Cond.code yX0_bears cX0_bears 2 (some .int), Cond.fieldLink RX0 9 "TownBand$Band" "kinds" "[I", Cond.methodLink RX0 53 yX0_byKind, Cond.static yX0_byKind, Cond.code yX0_byKind cX0_byKind 2 (some .int), Cond.methodLink RX5 38 yX5_spreadValues, Cond.instanceMethod yX5_spreadValues, Cond.selects RX5 yX5_spreadValues yX5_spreadValues, Cond.code yX5_spreadValues cX5_spreadValues 3 none, Cond.instanceMethod yX5_foundAt, Cond.selects RX5 yX5_foundAt yX5_foundAt, Cond.code yX5_foundAt cX5_foundAt 2 (some .int)]
def wsX6_loud : List Cond := .code yX6_loud cX6_loud 2 (some .int) :: ((wsX6_loud_r1 ++ (wsX6_loud_r2 ++ wsX6_loud_r3)) ++ wsX60 ++ wsX50 ++ wsX00)
def wsX6_towers_r1 : List Cond := [Cond.fieldLink RX6 33 "TownBand" "search" "LTownBand$Towers;", Cond.fieldLink RX6 10 "TownBand" "band" "LTownBand$Band;", Cond.instanceMethod yX5_walk, Cond.initialized RX5, Cond.selects RX5 yX5_walk yX5_walk, Cond.code yX5_walk cX5_walk 4 none, Cond.fieldLink RX5 18 "TownBand$Towers" "values" "[I", Cond.fieldLink RX5 21 "TownBand$Towers" "total" "I", Cond.fieldLink RX5 25 "TownBand$Towers" "foundSize" "I", Cond.fieldLink RX5 28 "TownBand$Towers" "foundScore" "I", Cond.fieldLink RX5 31 "TownBand$Towers" "foundNoise" "I", Cond.methodLink RX5 34 yX5_visit, Cond.static yX5_visit, Cond.code yX5_visit cX5_visit 6 none, Cond.fieldLink RX5 9 "TownBand$Towers" "row" "[I", Cond.methodLink RX5 41 yX5_weigh, Cond.instanceMethod yX5_weigh, Cond.selects RX5 yX5_weigh yX5_weigh, Cond.code yX5_weigh cX5_weigh 8 none, Cond.methodLink RX5 73 Lib.Math.max.name, Cond.static Lib.Math.max.name, Cond.initialized "java/lang/Math", Cond.code Lib.Math.max.name Lib.Math.max.code 2 (some .int), Cond.fieldLink RX5 15 "TownBand$Towers" "found" "[I"]
def wsX6_towers_r2 : List Cond := [Cond.methodLink RX5 82 arraycopyName, Cond.native arraycopyName, Cond.static arraycopyName, Cond.initialized "java/lang/System", Cond.instanceMethod yX0_noiseBy, Cond.initialized RX0, Cond.selects RX0 yX0_noiseBy yX0_noiseBy, Cond.code yX0_noiseBy cX0_noiseBy 6 (some .int), Cond.instanceMethod yX0_fledBits, Cond.selects RX0 yX0_fledBits yX0_fledBits, Cond.code yX0_fledBits cX0_fledBits 5 (some .int), Cond.fieldLink RX0 34 "TownBand$Band" "robbers" "I", Cond.fieldLink RX0 21 "TownBand$Band" "courages" "[I", Cond.methodLink RX5 68 yJ6_bitCount_0f7a4, Cond.static yJ6_bitCount_0f7a4, Cond.initialized RJ6, Cond.code yJ6_bitCount_0f7a4 cJ6_bitCount_0f7a4 1 (some .int), Cond.constant RJ6 265 (1431655765), Cond.constant RJ6 266 (858993459), Cond.constant RJ6 267 (252645135), Cond.instanceMethod yX0_carries, Cond.selects RX0 yX0_carries yX0_carries, Cond.code yX0_carries cX0_carries 6 (some .boolean), Cond.fieldLink RX0 15 "TownBand$Band" "weights" "[I"]
def wsX6_towers_r3 : List Cond := [Cond.methodLink RX0 65 yX0_bears, Cond.instanceMethod yX0_bears, Cond.selects RX0 yX0_bears yX0_bears, Cond.code yX0_bears cX0_bears 2 (some .int), Cond.fieldLink RX0 9 "TownBand$Band" "kinds" "[I", Cond.methodLink RX0 53 yX0_byKind, Cond.static yX0_byKind, Cond.code yX0_byKind cX0_byKind 2 (some .int), Cond.methodLink RX5 38 yX5_spreadValues, Cond.instanceMethod yX5_spreadValues, Cond.selects RX5 yX5_spreadValues yX5_spreadValues, Cond.code yX5_spreadValues cX5_spreadValues 3 none]
def wsX6_towers : List Cond := .code yX6_towers cX6_towers 1 (some .int) :: ((wsX6_towers_r1 ++ (wsX6_towers_r2 ++ wsX6_towers_r3)) ++ wsX60 ++ wsX50 ++ wsX00)
def wsX6_tale : List Cond := .code yX6_tale cX6_tale 3 (some .int) :: ([.fieldLink RX6 10 "TownBand" "band" "LTownBand$Band;", .instanceMethod yX0_metOn, .initialized RX0, .selects RX0 yX0_metOn yX0_metOn, .code yX0_metOn cX0_metOn 4 (some .int), .fieldLink RX0 30 "TownBand$Band" "beasts" "I", .fieldLink RX0 40 "TownBand$Band" "nerve" "I", .methodLink RX0 69 yX0_hurts, .instanceMethod yX0_hurts, .selects RX0 yX0_hurts yX0_hurts, .code yX0_hurts cX0_hurts 2 (some .int), .fieldLink RX0 9 "TownBand$Band" "kinds" "[I", .methodLink RX0 53 yX0_byKind, .static yX0_byKind, .code yX0_byKind cX0_byKind 2 (some .int), .instanceMethod yX0_hurtBehind, .selects RX0 yX0_hurtBehind yX0_hurtBehind, .code yX0_hurtBehind cX0_hurtBehind 5 (some .int)] ++ wsX60 ++ wsX00)
def wsX6_beds_r1 : List Cond := [Cond.fieldLink RX6 10 "TownBand" "band" "LTownBand$Band;", Cond.fieldLink RX6 40 "TownBand" "orders" "LTownBand$Orders;", Cond.methodLink RX6 67 yX6_within, Cond.static yX6_within, Cond.initialized RX6, Cond.code yX6_within cX6_within 3 (some .boolean), Cond.instanceMethod yX1_seekWorst, Cond.initialized RX1, Cond.selects RX1 yX1_seekWorst yX1_seekWorst, Cond.code yX1_seekWorst cX1_seekWorst 5 none, Cond.fieldLink RX1 9 "TownBand$Orders" "row" "[I", Cond.fieldLink RX1 28 "TownBand$Orders" "worstHurt" "I", Cond.fieldLink RX1 15 "TownBand$Orders" "first" "[I", Cond.methodLink RX1 49 arraycopyName, Cond.native arraycopyName, Cond.static arraycopyName, Cond.initialized "java/lang/System", Cond.static yX6_fillByOrder, Cond.code yX6_fillByOrder cX6_fillByOrder 2 none, Cond.static yX6_factorial, Cond.code yX6_factorial cX6_factorial 3 (some .int), Cond.instanceMethod yX0_metOn, Cond.initialized RX0, Cond.selects RX0 yX0_metOn yX0_metOn]
def wsX6_beds_r2 : List Cond := [Cond.code yX0_metOn cX0_metOn 4 (some .int), Cond.fieldLink RX0 30 "TownBand$Band" "beasts" "I", Cond.fieldLink RX0 40 "TownBand$Band" "nerve" "I", Cond.methodLink RX0 69 yX0_hurts, Cond.instanceMethod yX0_hurts, Cond.selects RX0 yX0_hurts yX0_hurts, Cond.code yX0_hurts cX0_hurts 2 (some .int), Cond.fieldLink RX0 9 "TownBand$Band" "kinds" "[I", Cond.methodLink RX0 53 yX0_byKind, Cond.static yX0_byKind, Cond.code yX0_byKind cX0_byKind 2 (some .int), Cond.instanceMethod yX0_hurtBehind, Cond.selects RX0 yX0_hurtBehind yX0_hurtBehind, Cond.code yX0_hurtBehind cX0_hurtBehind 5 (some .int), Cond.methodLink RX1 55 yX1_stepOn, Cond.instanceMethod yX1_stepOn, Cond.selects RX1 yX1_stepOn yX1_stepOn, Cond.code yX1_stepOn cX1_stepOn 6 none, Cond.static yX6_exchange, Cond.code yX6_exchange cX6_exchange 4 none]
def wsX6_beds : List Cond := .code yX6_beds cX6_beds 2 (some .int) :: ((wsX6_beds_r1 ++ wsX6_beds_r2) ++ wsX60 ++ wsX00 ++ wsX10)
def wsX6_brave : List Cond := .code yX6_brave cX6_brave 2 (some .int) :: ([.fieldLink RX6 10 "TownBand" "band" "LTownBand$Band;", .instanceMethod yX0_hurtBehind, .initialized RX0, .selects RX0 yX0_hurtBehind yX0_hurtBehind, .code yX0_hurtBehind cX0_hurtBehind 5 (some .int), .methodLink RX0 69 yX0_hurts, .instanceMethod yX0_hurts, .selects RX0 yX0_hurts yX0_hurts, .code yX0_hurts cX0_hurts 2 (some .int), .fieldLink RX0 9 "TownBand$Band" "kinds" "[I", .methodLink RX0 53 yX0_byKind, .static yX0_byKind, .code yX0_byKind cX0_byKind 2 (some .int)] ++ wsX60 ++ wsX00)
def wsX6_value_r1 : List Cond := [Cond.fieldLink RX6 10 "TownBand" "band" "LTownBand$Band;", Cond.fieldLink RX6 33 "TownBand" "search" "LTownBand$Towers;", Cond.methodLink RX6 67 yX6_within, Cond.static yX6_within, Cond.initialized RX6, Cond.code yX6_within cX6_within 3 (some .boolean), Cond.instanceMethod yX5_walk, Cond.initialized RX5, Cond.selects RX5 yX5_walk yX5_walk, Cond.code yX5_walk cX5_walk 4 none, Cond.fieldLink RX5 18 "TownBand$Towers" "values" "[I", Cond.fieldLink RX5 21 "TownBand$Towers" "total" "I", Cond.fieldLink RX5 25 "TownBand$Towers" "foundSize" "I", Cond.fieldLink RX5 28 "TownBand$Towers" "foundScore" "I", Cond.fieldLink RX5 31 "TownBand$Towers" "foundNoise" "I", Cond.methodLink RX5 34 yX5_visit, Cond.static yX5_visit, Cond.code yX5_visit cX5_visit 6 none, Cond.fieldLink RX5 9 "TownBand$Towers" "row" "[I", Cond.methodLink RX5 41 yX5_weigh, Cond.instanceMethod yX5_weigh, Cond.selects RX5 yX5_weigh yX5_weigh, Cond.code yX5_weigh cX5_weigh 8 none, Cond.methodLink RX5 73 Lib.Math.max.name]
def wsX6_value_r2 : List Cond := [Cond.static Lib.Math.max.name, Cond.initialized "java/lang/Math", Cond.code Lib.Math.max.name Lib.Math.max.code 2 (some .int), Cond.fieldLink RX5 15 "TownBand$Towers" "found" "[I", Cond.methodLink RX5 82 arraycopyName, Cond.native arraycopyName, Cond.static arraycopyName, Cond.initialized "java/lang/System", Cond.instanceMethod yX0_noiseBy, Cond.initialized RX0, Cond.selects RX0 yX0_noiseBy yX0_noiseBy, Cond.code yX0_noiseBy cX0_noiseBy 6 (some .int), Cond.instanceMethod yX0_fledBits, Cond.selects RX0 yX0_fledBits yX0_fledBits, Cond.code yX0_fledBits cX0_fledBits 5 (some .int), Cond.fieldLink RX0 34 "TownBand$Band" "robbers" "I", Cond.fieldLink RX0 21 "TownBand$Band" "courages" "[I", Cond.methodLink RX5 68 yJ6_bitCount_0f7a4, Cond.static yJ6_bitCount_0f7a4, Cond.initialized RJ6, Cond.code yJ6_bitCount_0f7a4 cJ6_bitCount_0f7a4 1 (some .int), Cond.constant RJ6 265 (1431655765), Cond.constant RJ6 266 (858993459), Cond.constant RJ6 267 (252645135)]
def wsX6_value_r3 : List Cond := [Cond.instanceMethod yX0_carries, Cond.selects RX0 yX0_carries yX0_carries, Cond.code yX0_carries cX0_carries 6 (some .boolean), Cond.fieldLink RX0 15 "TownBand$Band" "weights" "[I", Cond.methodLink RX0 65 yX0_bears, Cond.instanceMethod yX0_bears, Cond.selects RX0 yX0_bears yX0_bears, Cond.code yX0_bears cX0_bears 2 (some .int), Cond.fieldLink RX0 9 "TownBand$Band" "kinds" "[I", Cond.methodLink RX0 53 yX0_byKind, Cond.static yX0_byKind, Cond.code yX0_byKind cX0_byKind 2 (some .int), Cond.methodLink RX5 38 yX5_spreadValues, Cond.instanceMethod yX5_spreadValues, Cond.selects RX5 yX5_spreadValues yX5_spreadValues, Cond.code yX5_spreadValues cX5_spreadValues 3 none]
def wsX6_value : List Cond := .code yX6_value cX6_value 2 (some .int) :: ((wsX6_value_r1 ++ (wsX6_value_r2 ++ wsX6_value_r3)) ++ wsX60 ++ wsX00 ++ wsX50)
def wsX6_partOf : List Cond := .code yX6_partOf cX6_partOf 12 (some .long) :: ([])
def wsX6_share_r1 : List Cond := [Cond.fieldLink RX6 10 "TownBand" "band" "LTownBand$Band;", Cond.constantLong RX6 222 (-1), Cond.fieldLink RX6 33 "TownBand" "search" "LTownBand$Towers;", Cond.instanceMethod yX0_hasBeast, Cond.initialized RX0, Cond.selects RX0 yX0_hasBeast yX0_hasBeast, Cond.code yX0_hasBeast cX0_hasBeast 2 (some .boolean), Cond.fieldLink RX0 30 "TownBand$Band" "beasts" "I", Cond.static yX6_within, Cond.initialized RX6, Cond.code yX6_within cX6_within 3 (some .boolean), Cond.methodLink RX6 67 yX6_within, Cond.instanceMethod yX5_walk, Cond.initialized RX5, Cond.selects RX5 yX5_walk yX5_walk, Cond.code yX5_walk cX5_walk 4 none, Cond.fieldLink RX5 18 "TownBand$Towers" "values" "[I", Cond.fieldLink RX5 21 "TownBand$Towers" "total" "I", Cond.fieldLink RX5 25 "TownBand$Towers" "foundSize" "I", Cond.fieldLink RX5 28 "TownBand$Towers" "foundScore" "I", Cond.fieldLink RX5 31 "TownBand$Towers" "foundNoise" "I", Cond.methodLink RX5 34 yX5_visit, Cond.static yX5_visit, Cond.code yX5_visit cX5_visit 6 none]
def wsX6_share_r2 : List Cond := [Cond.fieldLink RX5 9 "TownBand$Towers" "row" "[I", Cond.methodLink RX5 41 yX5_weigh, Cond.instanceMethod yX5_weigh, Cond.selects RX5 yX5_weigh yX5_weigh, Cond.code yX5_weigh cX5_weigh 8 none, Cond.methodLink RX5 73 Lib.Math.max.name, Cond.static Lib.Math.max.name, Cond.initialized "java/lang/Math", Cond.code Lib.Math.max.name Lib.Math.max.code 2 (some .int), Cond.fieldLink RX5 15 "TownBand$Towers" "found" "[I", Cond.methodLink RX5 82 arraycopyName, Cond.native arraycopyName, Cond.static arraycopyName, Cond.initialized "java/lang/System", Cond.instanceMethod yX0_noiseBy, Cond.selects RX0 yX0_noiseBy yX0_noiseBy, Cond.code yX0_noiseBy cX0_noiseBy 6 (some .int), Cond.instanceMethod yX0_fledBits, Cond.selects RX0 yX0_fledBits yX0_fledBits, Cond.code yX0_fledBits cX0_fledBits 5 (some .int), Cond.fieldLink RX0 34 "TownBand$Band" "robbers" "I", Cond.fieldLink RX0 21 "TownBand$Band" "courages" "[I", Cond.methodLink RX5 68 yJ6_bitCount_0f7a4, Cond.static yJ6_bitCount_0f7a4]
def wsX6_share_r3 : List Cond := [Cond.initialized RJ6, Cond.code yJ6_bitCount_0f7a4 cJ6_bitCount_0f7a4 1 (some .int), Cond.constant RJ6 265 (1431655765), Cond.constant RJ6 266 (858993459), Cond.constant RJ6 267 (252645135), Cond.instanceMethod yX0_carries, Cond.selects RX0 yX0_carries yX0_carries, Cond.code yX0_carries cX0_carries 6 (some .boolean), Cond.fieldLink RX0 15 "TownBand$Band" "weights" "[I", Cond.methodLink RX0 65 yX0_bears, Cond.instanceMethod yX0_bears, Cond.selects RX0 yX0_bears yX0_bears, Cond.code yX0_bears cX0_bears 2 (some .int), Cond.fieldLink RX0 9 "TownBand$Band" "kinds" "[I", Cond.methodLink RX0 53 yX0_byKind, Cond.static yX0_byKind, Cond.code yX0_byKind cX0_byKind 2 (some .int), Cond.methodLink RX5 38 yX5_spreadValues, Cond.instanceMethod yX5_spreadValues, Cond.selects RX5 yX5_spreadValues yX5_spreadValues, Cond.code yX5_spreadValues cX5_spreadValues 3 none, Cond.methodLink RX6 169 yJ6_bitCount_0f7a4, Cond.methodLink RX6 224 yX6_factorial, Cond.static yX6_factorial]
def wsX6_share_r4 : List Cond := [Cond.code yX6_factorial cX6_factorial 3 (some .int), Cond.methodLink RX6 227 yX6_partOf, Cond.static yX6_partOf, Cond.code yX6_partOf cX6_partOf 12 (some .long)]
def wsX6_share : List Cond := .code yX6_share cX6_share 9 (some .long) :: ((wsX6_share_r1 ++ (wsX6_share_r2 ++ (wsX6_share_r3 ++ wsX6_share_r4))) ++ wsX60 ++ wsX00 ++ wsX50)
def wsX6_silence : List Cond := .code yX6_silence cX6_silence 3 none :: ([.fieldLink RX6 10 "TownBand" "band" "LTownBand$Band;", .fieldLink RX6 58 "TownBand" "throats" "[I", .methodLink RX6 243 arraycopyName, .native arraycopyName, .static arraycopyName, .initialized "java/lang/System"] ++ wsX60 ++ wsX00)
def wsX6_power : List Cond := .code yX6_power cX6_power 5 (some .long) :: ([])
def wsX6_hoarseSum_r1 : List Cond := [Cond.fieldLink RX6 10 "TownBand" "band" "LTownBand$Band;", Cond.fieldLink RX6 58 "TownBand" "throats" "[I", Cond.methodLink RX6 239 yX6_silence, Cond.instanceMethod yX6_silence, Cond.selects RX6 yX6_silence yX6_silence, Cond.initialized RX6, Cond.code yX6_silence cX6_silence 3 none, Cond.methodLink RX6 243 arraycopyName, Cond.native arraycopyName, Cond.static arraycopyName, Cond.initialized "java/lang/System", Cond.instanceMethod yX0_noiseBy, Cond.initialized RX0, Cond.selects RX0 yX0_noiseBy yX0_noiseBy, Cond.code yX0_noiseBy cX0_noiseBy 6 (some .int), Cond.instanceMethod yX0_fledBits, Cond.selects RX0 yX0_fledBits yX0_fledBits, Cond.code yX0_fledBits cX0_fledBits 5 (some .int), Cond.fieldLink RX0 34 "TownBand$Band" "robbers" "I", Cond.fieldLink RX0 21 "TownBand$Band" "courages" "[I", Cond.methodLink RX6 169 yJ6_bitCount_0f7a4, Cond.static yJ6_bitCount_0f7a4, Cond.initialized RJ6, Cond.code yJ6_bitCount_0f7a4 cJ6_bitCount_0f7a4 1 (some .int)]
def wsX6_hoarseSum_r2 : List Cond := [Cond.constant RJ6 265 (1431655765), Cond.constant RJ6 266 (858993459), Cond.constant RJ6 267 (252645135), Cond.methodLink RX6 235 yX6_power, Cond.static yX6_power, Cond.code yX6_power cX6_power 5 (some .long)]
def wsX6_hoarseSum : List Cond := .code yX6_hoarseSum cX6_hoarseSum 10 (some .long) :: ((wsX6_hoarseSum_r1 ++ wsX6_hoarseSum_r2) ++ wsX60 ++ wsX00)
def wsX6_mean_r1 : List Cond := [Cond.constantLong RX6 222 (-1), Cond.fieldLink RX6 10 "TownBand" "band" "LTownBand$Band;", Cond.methodLink RX6 67 yX6_within, Cond.static yX6_within, Cond.initialized RX6, Cond.code yX6_within cX6_within 3 (some .boolean), Cond.methodLink RX6 231 yX6_hoarseSum, Cond.instanceMethod yX6_hoarseSum, Cond.selects RX6 yX6_hoarseSum yX6_hoarseSum, Cond.code yX6_hoarseSum cX6_hoarseSum 10 (some .long), Cond.fieldLink RX6 58 "TownBand" "throats" "[I", Cond.methodLink RX6 239 yX6_silence, Cond.instanceMethod yX6_silence, Cond.selects RX6 yX6_silence yX6_silence, Cond.code yX6_silence cX6_silence 3 none, Cond.methodLink RX6 243 arraycopyName, Cond.native arraycopyName, Cond.static arraycopyName, Cond.initialized "java/lang/System", Cond.instanceMethod yX0_noiseBy, Cond.initialized RX0, Cond.selects RX0 yX0_noiseBy yX0_noiseBy, Cond.code yX0_noiseBy cX0_noiseBy 6 (some .int), Cond.instanceMethod yX0_fledBits]
def wsX6_mean_r2 : List Cond := [Cond.selects RX0 yX0_fledBits yX0_fledBits, Cond.code yX0_fledBits cX0_fledBits 5 (some .int), Cond.fieldLink RX0 34 "TownBand$Band" "robbers" "I", Cond.fieldLink RX0 21 "TownBand$Band" "courages" "[I", Cond.methodLink RX6 169 yJ6_bitCount_0f7a4, Cond.static yJ6_bitCount_0f7a4, Cond.initialized RJ6, Cond.code yJ6_bitCount_0f7a4 cJ6_bitCount_0f7a4 1 (some .int), Cond.constant RJ6 265 (1431655765), Cond.constant RJ6 266 (858993459), Cond.constant RJ6 267 (252645135), Cond.methodLink RX6 235 yX6_power, Cond.static yX6_power, Cond.code yX6_power cX6_power 5 (some .long), Cond.methodLink RX6 227 yX6_partOf, Cond.static yX6_partOf, Cond.code yX6_partOf cX6_partOf 12 (some .long)]
def wsX6_mean : List Cond := .code yX6_mean cX6_mean 3 (some .long) :: ((wsX6_mean_r1 ++ wsX6_mean_r2) ++ wsX60 ++ wsX00)
def wsX6_luck_r1 : List Cond := [Cond.constantLong RX6 222 (-1), Cond.fieldLink RX6 10 "TownBand" "band" "LTownBand$Band;", Cond.methodLink RX6 67 yX6_within, Cond.static yX6_within, Cond.initialized RX6, Cond.code yX6_within cX6_within 3 (some .boolean), Cond.methodLink RX6 231 yX6_hoarseSum, Cond.instanceMethod yX6_hoarseSum, Cond.selects RX6 yX6_hoarseSum yX6_hoarseSum, Cond.code yX6_hoarseSum cX6_hoarseSum 10 (some .long), Cond.fieldLink RX6 58 "TownBand" "throats" "[I", Cond.methodLink RX6 239 yX6_silence, Cond.instanceMethod yX6_silence, Cond.selects RX6 yX6_silence yX6_silence, Cond.code yX6_silence cX6_silence 3 none, Cond.methodLink RX6 243 arraycopyName, Cond.native arraycopyName, Cond.static arraycopyName, Cond.initialized "java/lang/System", Cond.instanceMethod yX0_noiseBy, Cond.initialized RX0, Cond.selects RX0 yX0_noiseBy yX0_noiseBy, Cond.code yX0_noiseBy cX0_noiseBy 6 (some .int), Cond.instanceMethod yX0_fledBits]
def wsX6_luck_r2 : List Cond := [Cond.selects RX0 yX0_fledBits yX0_fledBits, Cond.code yX0_fledBits cX0_fledBits 5 (some .int), Cond.fieldLink RX0 34 "TownBand$Band" "robbers" "I", Cond.fieldLink RX0 21 "TownBand$Band" "courages" "[I", Cond.methodLink RX6 169 yJ6_bitCount_0f7a4, Cond.static yJ6_bitCount_0f7a4, Cond.initialized RJ6, Cond.code yJ6_bitCount_0f7a4 cJ6_bitCount_0f7a4 1 (some .int), Cond.constant RJ6 265 (1431655765), Cond.constant RJ6 266 (858993459), Cond.constant RJ6 267 (252645135), Cond.methodLink RX6 235 yX6_power, Cond.static yX6_power, Cond.code yX6_power cX6_power 5 (some .long), Cond.methodLink RX6 227 yX6_partOf, Cond.static yX6_partOf, Cond.code yX6_partOf cX6_partOf 12 (some .long)]
def wsX6_luck : List Cond := .code yX6_luck cX6_luck 3 (some .long) :: ((wsX6_luck_r1 ++ wsX6_luck_r2) ++ wsX60 ++ wsX00)
def wsX6_see : List Cond := .code yX6_see cX6_see 3 (some .int) :: ([.fieldLink RX6 26 "TownBand" "seen" "LTownBand$Seen;", .methodLink RX6 67 yX6_within, .static yX6_within, .initialized RX6, .code yX6_within cX6_within 3 (some .boolean)] ++ wsX60 ++ wsX20)
def wsX6_forget : List Cond := .code yX6_forget cX6_forget 3 (some .int) :: ([.fieldLink RX6 26 "TownBand" "seen" "LTownBand$Seen;", .methodLink RX6 67 yX6_within, .static yX6_within, .initialized RX6, .code yX6_within cX6_within 3 (some .boolean)] ++ wsX60 ++ wsX20)
def wsX6_fits_r1 : List Cond := [Cond.fieldLink RX6 10 "TownBand" "band" "LTownBand$Band;", Cond.fieldLink RX6 40 "TownBand" "orders" "LTownBand$Orders;", Cond.fieldLink RX6 26 "TownBand" "seen" "LTownBand$Seen;", Cond.methodLink RX6 67 yX6_within, Cond.static yX6_within, Cond.initialized RX6, Cond.code yX6_within cX6_within 3 (some .boolean), Cond.instanceMethod yX1_seekFitting, Cond.initialized RX1, Cond.selects RX1 yX1_seekFitting yX1_seekFitting, Cond.code yX1_seekFitting cX1_seekFitting 5 none, Cond.fieldLink RX1 9 "TownBand$Orders" "row" "[I", Cond.fieldLink RX1 59 "TownBand$Orders" "fitting" "I", Cond.fieldLink RX1 18 "TownBand$Orders" "liers" "[I", Cond.fieldLink RX1 21 "TownBand$Orders" "tally" "[I", Cond.static yX6_fillByOrder, Cond.code yX6_fillByOrder cX6_fillByOrder 2 none, Cond.static yX6_factorial, Cond.code yX6_factorial cX6_factorial 3 (some .int), Cond.methodLink RX1 62 yX1_isAsSeen, Cond.instanceMethod yX1_isAsSeen, Cond.selects RX1 yX1_isAsSeen yX1_isAsSeen, Cond.code yX1_isAsSeen cX1_isAsSeen 5 (some .boolean), Cond.instanceMethod yX0_hurtBehind]
def wsX6_fits_r2 : List Cond := [Cond.initialized RX0, Cond.selects RX0 yX0_hurtBehind yX0_hurtBehind, Cond.code yX0_hurtBehind cX0_hurtBehind 5 (some .int), Cond.methodLink RX0 69 yX0_hurts, Cond.instanceMethod yX0_hurts, Cond.selects RX0 yX0_hurts yX0_hurts, Cond.code yX0_hurts cX0_hurts 2 (some .int), Cond.fieldLink RX0 9 "TownBand$Band" "kinds" "[I", Cond.methodLink RX0 53 yX0_byKind, Cond.static yX0_byKind, Cond.code yX0_byKind cX0_byKind 2 (some .int), Cond.methodLink RX1 66 yX1_enter, Cond.instanceMethod yX1_enter, Cond.selects RX1 yX1_enter yX1_enter, Cond.code yX1_enter cX1_enter 4 none, Cond.fieldLink RX1 15 "TownBand$Orders" "first" "[I", Cond.methodLink RX1 49 arraycopyName, Cond.native arraycopyName, Cond.static arraycopyName, Cond.initialized "java/lang/System", Cond.methodLink RX1 55 yX1_stepOn, Cond.instanceMethod yX1_stepOn, Cond.selects RX1 yX1_stepOn yX1_stepOn, Cond.code yX1_stepOn cX1_stepOn 6 none]
def wsX6_fits_r3 : List Cond := [Cond.static yX6_exchange, Cond.code yX6_exchange cX6_exchange 4 none]
def wsX6_fits : List Cond := .code yX6_fits cX6_fits 3 (some .int) :: ((wsX6_fits_r1 ++ (wsX6_fits_r2 ++ wsX6_fits_r3)) ++ wsX60 ++ wsX00 ++ wsX10 ++ wsX20)
def wsX6_ask_r1 : List Cond := [Cond.fieldLink RX6 40 "TownBand" "orders" "LTownBand$Orders;", Cond.fieldLink RX6 10 "TownBand" "band" "LTownBand$Band;", Cond.fieldLink RX6 26 "TownBand" "seen" "LTownBand$Seen;", Cond.methodLink RX6 67 yX6_within, Cond.static yX6_within, Cond.initialized RX6, Cond.code yX6_within cX6_within 3 (some .boolean), Cond.instanceMethod yX1_seekFitting, Cond.initialized RX1, Cond.selects RX1 yX1_seekFitting yX1_seekFitting, Cond.code yX1_seekFitting cX1_seekFitting 5 none, Cond.fieldLink RX1 9 "TownBand$Orders" "row" "[I", Cond.fieldLink RX1 59 "TownBand$Orders" "fitting" "I", Cond.fieldLink RX1 18 "TownBand$Orders" "liers" "[I", Cond.fieldLink RX1 21 "TownBand$Orders" "tally" "[I", Cond.static yX6_fillByOrder, Cond.code yX6_fillByOrder cX6_fillByOrder 2 none, Cond.static yX6_factorial, Cond.code yX6_factorial cX6_factorial 3 (some .int), Cond.methodLink RX1 62 yX1_isAsSeen, Cond.instanceMethod yX1_isAsSeen, Cond.selects RX1 yX1_isAsSeen yX1_isAsSeen, Cond.code yX1_isAsSeen cX1_isAsSeen 5 (some .boolean), Cond.instanceMethod yX0_hurtBehind]
def wsX6_ask_r2 : List Cond := [Cond.initialized RX0, Cond.selects RX0 yX0_hurtBehind yX0_hurtBehind, Cond.code yX0_hurtBehind cX0_hurtBehind 5 (some .int), Cond.methodLink RX0 69 yX0_hurts, Cond.instanceMethod yX0_hurts, Cond.selects RX0 yX0_hurts yX0_hurts, Cond.code yX0_hurts cX0_hurts 2 (some .int), Cond.fieldLink RX0 9 "TownBand$Band" "kinds" "[I", Cond.methodLink RX0 53 yX0_byKind, Cond.static yX0_byKind, Cond.code yX0_byKind cX0_byKind 2 (some .int), Cond.methodLink RX1 66 yX1_enter, Cond.instanceMethod yX1_enter, Cond.selects RX1 yX1_enter yX1_enter, Cond.code yX1_enter cX1_enter 4 none, Cond.fieldLink RX1 15 "TownBand$Orders" "first" "[I", Cond.methodLink RX1 49 arraycopyName, Cond.native arraycopyName, Cond.static arraycopyName, Cond.initialized "java/lang/System", Cond.methodLink RX1 55 yX1_stepOn, Cond.instanceMethod yX1_stepOn, Cond.selects RX1 yX1_stepOn yX1_stepOn, Cond.code yX1_stepOn cX1_stepOn 6 none]
def wsX6_ask_r3 : List Cond := [Cond.static yX6_exchange, Cond.code yX6_exchange cX6_exchange 4 none, Cond.instanceMethod yX1_mostLeft, Cond.selects RX1 yX1_mostLeft yX1_mostLeft, Cond.code yX1_mostLeft cX1_mostLeft 4 (some .int), Cond.methodLink RX1 84 Lib.Math.max.name, Cond.static Lib.Math.max.name, Cond.initialized "java/lang/Math", Cond.code Lib.Math.max.name Lib.Math.max.code 2 (some .int)]
def wsX6_ask : List Cond := .code yX6_ask cX6_ask 6 (some .int) :: ((wsX6_ask_r1 ++ (wsX6_ask_r2 ++ wsX6_ask_r3)) ++ wsX60 ++ wsX10 ++ wsX00 ++ wsX20)
def wsX6_nextSeed : List Cond := .code yX6_nextSeed cX6_nextSeed 1 (some .int) :: ([.constant RX6 274 (1103515245)])
def wsX6_seedBits : List Cond := .code yX6_seedBits cX6_seedBits 1 (some .int) :: ([])
def wsX6_drift_r1 : List Cond := [Cond.fieldLink RX6 10 "TownBand" "band" "LTownBand$Band;", Cond.fieldLink RX6 58 "TownBand" "throats" "[I", Cond.methodLink RX6 243 arraycopyName, Cond.native arraycopyName, Cond.static arraycopyName, Cond.initialized "java/lang/System", Cond.methodLink RX6 67 yX6_within, Cond.static yX6_within, Cond.initialized RX6, Cond.code yX6_within cX6_within 3 (some .boolean), Cond.methodLink RX6 268 yX6_nextSeed, Cond.static yX6_nextSeed, Cond.code yX6_nextSeed cX6_nextSeed 1 (some .int), Cond.constant RX6 274 (1103515245), Cond.methodLink RX6 271 yX6_seedBits, Cond.static yX6_seedBits, Cond.code yX6_seedBits cX6_seedBits 1 (some .int), Cond.instanceMethod yX0_noiseBy, Cond.initialized RX0, Cond.selects RX0 yX0_noiseBy yX0_noiseBy, Cond.code yX0_noiseBy cX0_noiseBy 6 (some .int), Cond.instanceMethod yX0_fledBits, Cond.selects RX0 yX0_fledBits yX0_fledBits, Cond.code yX0_fledBits cX0_fledBits 5 (some .int)]
def wsX6_drift_r2 : List Cond := [Cond.fieldLink RX0 34 "TownBand$Band" "robbers" "I", Cond.fieldLink RX0 21 "TownBand$Band" "courages" "[I", Cond.methodLink RX6 169 yJ6_bitCount_0f7a4, Cond.static yJ6_bitCount_0f7a4, Cond.initialized RJ6, Cond.code yJ6_bitCount_0f7a4 cJ6_bitCount_0f7a4 1 (some .int), Cond.constant RJ6 265 (1431655765), Cond.constant RJ6 266 (858993459), Cond.constant RJ6 267 (252645135)]
def wsX6_drift : List Cond := .code yX6_drift cX6_drift 9 (some .int) :: ((wsX6_drift_r1 ++ wsX6_drift_r2) ++ wsX60 ++ wsX00)
def wsX6_keep_r1 : List Cond := [Cond.fieldLink RX6 48 "TownBand" "kept" "[Z", Cond.fieldLink RX6 44 "TownBand" "images" "[LTownBand$Band;", Cond.fieldLink RX6 10 "TownBand" "band" "LTownBand$Band;", Cond.methodLink RX6 67 yX6_within, Cond.static yX6_within, Cond.initialized RX6, Cond.code yX6_within cX6_within 3 (some .boolean), Cond.instanceMethod yX0_copyFrom, Cond.initialized RX0, Cond.selects RX0 yX0_copyFrom yX0_copyFrom, Cond.code yX0_copyFrom cX0_copyFrom 2 none, Cond.fieldLink RX0 9 "TownBand$Band" "kinds" "[I", Cond.methodLink RX0 43 arraycopyName, Cond.native arraycopyName, Cond.static arraycopyName, Cond.initialized "java/lang/System", Cond.fieldLink RX0 15 "TownBand$Band" "weights" "[I", Cond.fieldLink RX0 18 "TownBand$Band" "voices" "[I", Cond.fieldLink RX0 21 "TownBand$Band" "courages" "[I", Cond.fieldLink RX0 24 "TownBand$Band" "tower" "[I", Cond.fieldLink RX0 27 "TownBand$Band" "bedRow" "[I", Cond.fieldLink RX0 30 "TownBand$Band" "beasts" "I", Cond.fieldLink RX0 34 "TownBand$Band" "robbers" "I", Cond.fieldLink RX0 37 "TownBand$Band" "height" "I"]
def wsX6_keep_r2 : List Cond := [Cond.fieldLink RX0 40 "TownBand$Band" "nerve" "I"]
def wsX6_keep : List Cond := .code yX6_keep cX6_keep 3 (some .int) :: ((wsX6_keep_r1 ++ wsX6_keep_r2) ++ wsX60 ++ wsX00)
def wsX6_back_r1 : List Cond := [Cond.fieldLink RX6 48 "TownBand" "kept" "[Z", Cond.fieldLink RX6 10 "TownBand" "band" "LTownBand$Band;", Cond.fieldLink RX6 44 "TownBand" "images" "[LTownBand$Band;", Cond.methodLink RX6 67 yX6_within, Cond.static yX6_within, Cond.initialized RX6, Cond.code yX6_within cX6_within 3 (some .boolean), Cond.instanceMethod yX0_copyFrom, Cond.initialized RX0, Cond.selects RX0 yX0_copyFrom yX0_copyFrom, Cond.code yX0_copyFrom cX0_copyFrom 2 none, Cond.fieldLink RX0 9 "TownBand$Band" "kinds" "[I", Cond.methodLink RX0 43 arraycopyName, Cond.native arraycopyName, Cond.static arraycopyName, Cond.initialized "java/lang/System", Cond.fieldLink RX0 15 "TownBand$Band" "weights" "[I", Cond.fieldLink RX0 18 "TownBand$Band" "voices" "[I", Cond.fieldLink RX0 21 "TownBand$Band" "courages" "[I", Cond.fieldLink RX0 24 "TownBand$Band" "tower" "[I", Cond.fieldLink RX0 27 "TownBand$Band" "bedRow" "[I", Cond.fieldLink RX0 30 "TownBand$Band" "beasts" "I", Cond.fieldLink RX0 34 "TownBand$Band" "robbers" "I", Cond.fieldLink RX0 37 "TownBand$Band" "height" "I"]
def wsX6_back_r2 : List Cond := [Cond.fieldLink RX0 40 "TownBand$Band" "nerve" "I"]
def wsX6_back : List Cond := .code yX6_back cX6_back 2 (some .int) :: ((wsX6_back_r1 ++ wsX6_back_r2) ++ wsX60 ++ wsX00)
def wsX6_sheet : List Cond := .code yX6_sheet cX6_sheet 4 (some .int) :: ([.fieldLink RX6 54 "TownBand" "sheets" "[LTownBand$Sheet;", .methodLink RX6 67 yX6_within, .static yX6_within, .initialized RX6, .code yX6_within cX6_within 3 (some .boolean), .instanceMethod yX3_renew, .initialized RX3, .selects RX3 yX3_renew yX3_renew, .code yX3_renew cX3_renew 4 none, .fieldLink RX3 15 "TownBand$Sheet" "lane" "I", .fieldLink RX3 19 "TownBand$Sheet" "size" "I", .fieldLink RX3 9 "TownBand$Sheet" "cells" "[I"] ++ wsX60 ++ wsX30)
def wsX6_lay : List Cond := .code yX6_lay cX6_lay 5 (some .int) :: ([.fieldLink RX6 54 "TownBand" "sheets" "[LTownBand$Sheet;", .methodLink RX6 67 yX6_within, .static yX6_within, .initialized RX6, .code yX6_within cX6_within 3 (some .boolean), .instanceMethod yX3_faultAt, .initialized RX3, .selects RX3 yX3_faultAt yX3_faultAt, .code yX3_faultAt cX3_faultAt 2 (some .int), .fieldLink RX3 15 "TownBand$Sheet" "lane" "I", .fieldLink RX3 19 "TownBand$Sheet" "size" "I", .instanceMethod yX3_put, .selects RX3 yX3_put yX3_put, .code yX3_put cX3_put 3 none, .fieldLink RX3 9 "TownBand$Sheet" "cells" "[I"] ++ wsX60 ++ wsX30)
def wsX6_read_r1 : List Cond := [Cond.fieldLink RX6 54 "TownBand" "sheets" "[LTownBand$Sheet;", Cond.fieldLink RX6 10 "TownBand" "band" "LTownBand$Band;", Cond.fieldLink RX6 62 "TownBand" "tear" "I", Cond.methodLink RX6 67 yX6_within, Cond.static yX6_within, Cond.initialized RX6, Cond.code yX6_within cX6_within 3 (some .boolean), Cond.instanceMethod yX3_faultAs, Cond.initialized RX3, Cond.selects RX3 yX3_faultAs yX3_faultAs, Cond.code yX3_faultAs cX3_faultAs 3 (some .int), Cond.fieldLink RX3 15 "TownBand$Sheet" "lane" "I", Cond.methodLink RX3 22 yX3_faultAt, Cond.instanceMethod yX3_faultAt, Cond.selects RX3 yX3_faultAt yX3_faultAt, Cond.code yX3_faultAt cX3_faultAt 2 (some .int), Cond.fieldLink RX3 19 "TownBand$Sheet" "size" "I", Cond.methodLink RX6 152 yX6_mount, Cond.instanceMethod yX6_mount, Cond.selects RX6 yX6_mount yX6_mount, Cond.code yX6_mount cX6_mount 2 (some .int), Cond.instanceMethod yX0_hasBeast, Cond.initialized RX0, Cond.selects RX0 yX0_hasBeast yX0_hasBeast]
def wsX6_read_r2 : List Cond := [Cond.code yX0_hasBeast cX0_hasBeast 2 (some .boolean), Cond.fieldLink RX0 30 "TownBand$Band" "beasts" "I", Cond.instanceMethod yX0_canClimb, Cond.selects RX0 yX0_canClimb yX0_canClimb, Cond.code yX0_canClimb cX0_canClimb 2 (some .boolean), Cond.fieldLink RX0 37 "TownBand$Band" "height" "I", Cond.fieldLink RX0 24 "TownBand$Band" "tower" "[I", Cond.fieldLink RX0 15 "TownBand$Band" "weights" "[I", Cond.methodLink RX0 61 yX0_towerBits, Cond.instanceMethod yX0_towerBits, Cond.selects RX0 yX0_towerBits yX0_towerBits, Cond.code yX0_towerBits cX0_towerBits 3 (some .int), Cond.methodLink RX0 57 yX0_carries, Cond.instanceMethod yX0_carries, Cond.selects RX0 yX0_carries yX0_carries, Cond.code yX0_carries cX0_carries 6 (some .boolean), Cond.methodLink RX0 65 yX0_bears, Cond.instanceMethod yX0_bears, Cond.selects RX0 yX0_bears yX0_bears, Cond.code yX0_bears cX0_bears 2 (some .int), Cond.fieldLink RX0 9 "TownBand$Band" "kinds" "[I", Cond.methodLink RX0 53 yX0_byKind, Cond.static yX0_byKind, Cond.code yX0_byKind cX0_byKind 2 (some .int)]
def wsX6_read : List Cond := .code yX6_read cX6_read 10 (some .int) :: ((wsX6_read_r1 ++ wsX6_read_r2) ++ wsX60 ++ wsX00 ++ wsX30)
def wsX6_torn : List Cond := .code yX6_torn cX6_torn 1 (some .int) :: ([.fieldLink RX6 62 "TownBand" "tear" "I"] ++ wsX60)
def wsX6_sumOf : List Cond := .code yX6_sumOf cX6_sumOf 4 (some .int) :: ([])
def wsX6_count : List Cond := .code yX6_count cX6_count 2 (some .int) :: ([.fieldLink RX6 26 "TownBand" "seen" "LTownBand$Seen;", .fieldLink RX6 48 "TownBand" "kept" "[Z", .fieldLink RX6 19 "TownBand" "tape" "LTownBand$Tape;", .fieldLink RX6 54 "TownBand" "sheets" "[LTownBand$Sheet;", .fieldLink RX6 10 "TownBand" "band" "LTownBand$Band;", .methodLink RX6 295 yX6_sumOf, .static yX6_sumOf, .initialized RX6, .code yX6_sumOf cX6_sumOf 4 (some .int)] ++ wsX60 ++ wsX20 ++ wsX40 ++ wsX30 ++ wsX00)
def wsX7_init : List Cond := .code yX7_init cX7_init 1 none :: ([.methodLink RX7 1 objectInit, .instanceMethod objectInit, .code objectInit ⟨#[0xb1]⟩ 1 none, .arrayClass .int, .fieldLink RX7 7 "TownBandModel" "state" "[I", .fieldLink RX7 13 "TownBandModel" "readPage" "[I", .fieldLink RX7 16 "TownBandModel" "tape" "[I", .fieldLink RX7 19 "TownBandModel" "cuts" "[I", .fieldLink RX7 22 "TownBandModel" "letters" "[I", .fieldLink RX7 25 "TownBandModel" "seen" "[I", .fieldLink RX7 28 "TownBandModel" "hurtMany" "[I", .arrayClass .boolean, .fieldLink RX7 31 "TownBandModel" "isKept" "[Z", .fieldLink RX7 35 "TownBandModel" "lanes" "[I", .fieldLink RX7 38 "TownBandModel" "lengths" "[I", .fieldLink RX7 41 "TownBandModel" "cells" "[I"] ++ wsX70)
def wsX7_in : List Cond := .code yX7_in cX7_in 6 (some .boolean) :: ([])
def wsX7_feed : List Cond := .code yX7_feed cX7_feed 2 (some .int) :: ([.constantLong RX7 44 (127), .fieldLink RX7 50 "TownBandModel" "taped" "I", .fieldLink RX7 16 "TownBandModel" "tape" "[I", .methodLink RX7 46 yX7_in, .static yX7_in, .initialized RX7, .code yX7_in cX7_in 6 (some .boolean)] ++ wsX70)
def wsX7_end : List Cond := .code yX7_end cX7_end 3 (some .int) :: ([.fieldLink RX7 50 "TownBandModel" "taped" "I", .methodLink RX7 46 yX7_in, .static yX7_in, .initialized RX7, .code yX7_in cX7_in 6 (some .boolean)] ++ wsX70)
def wsX7_byteAt : List Cond := .code yX7_byteAt cX7_byteAt 2 (some .int) :: ([.fieldLink RX7 50 "TownBandModel" "taped" "I", .fieldLink RX7 16 "TownBandModel" "tape" "[I"] ++ wsX70)
def wsX7_fails : List Cond := .code yX7_fails cX7_fails 2 none :: ([.fieldLink RX7 54 "TownBandModel" "broken" "I", .fieldLink RX7 57 "TownBandModel" "here" "I", .fieldLink RX7 60 "TownBandModel" "brokenAt" "I"] ++ wsX70)
def wsX7_nameHere : List Cond := .code yX7_nameHere cX7_nameHere 4 (some .int) :: ([.fieldLink RX7 63 "TownBandModel" "token" "I", .fieldLink RX7 66 "TownBandModel" "spot" "I", .fieldLink RX7 57 "TownBandModel" "here" "I", .fieldLink RX7 19 "TownBandModel" "cuts" "[I", .fieldLink RX7 22 "TownBandModel" "letters" "[I", .methodLink RX7 69 yX7_byteAt, .instanceMethod yX7_byteAt, .selects RX7 yX7_byteAt yX7_byteAt, .initialized RX7, .code yX7_byteAt cX7_byteAt 2 (some .int), .fieldLink RX7 50 "TownBandModel" "taped" "I", .fieldLink RX7 16 "TownBandModel" "tape" "[I"] ++ wsX70)
def wsX7_step : List Cond := .code yX7_step cX7_step 2 none :: ([.fieldLink RX7 54 "TownBandModel" "broken" "I", .fieldLink RX7 66 "TownBandModel" "spot" "I", .fieldLink RX7 57 "TownBandModel" "here" "I", .fieldLink RX7 73 "TownBandModel" "value" "I", .fieldLink RX7 63 "TownBandModel" "token" "I", .constantLong RX7 76 (97), .constantLong RX7 78 (122), .constantLong RX7 80 (48), .constantLong RX7 82 (57), .methodLink RX7 69 yX7_byteAt, .instanceMethod yX7_byteAt, .selects RX7 yX7_byteAt yX7_byteAt, .initialized RX7, .code yX7_byteAt cX7_byteAt 2 (some .int), .fieldLink RX7 50 "TownBandModel" "taped" "I", .fieldLink RX7 16 "TownBandModel" "tape" "[I", .methodLink RX7 46 yX7_in, .static yX7_in, .code yX7_in cX7_in 6 (some .boolean), .methodLink RX7 84 yX7_fails, .instanceMethod yX7_fails, .selects RX7 yX7_fails yX7_fails, .code yX7_fails cX7_fails 2 none, .fieldLink RX7 60 "TownBandModel" "brokenAt" "I"] ++ wsX70)
def wsX7_other_r1 : List Cond := [Cond.fieldLink RX7 54 "TownBandModel" "broken" "I", Cond.fieldLink RX7 63 "TownBandModel" "token" "I", Cond.fieldLink RX7 73 "TownBandModel" "value" "I", Cond.methodLink RX7 84 yX7_fails, Cond.instanceMethod yX7_fails, Cond.selects RX7 yX7_fails yX7_fails, Cond.initialized RX7, Cond.code yX7_fails cX7_fails 2 none, Cond.fieldLink RX7 57 "TownBandModel" "here" "I", Cond.fieldLink RX7 60 "TownBandModel" "brokenAt" "I", Cond.methodLink RX7 46 yX7_in, Cond.static yX7_in, Cond.code yX7_in cX7_in 6 (some .boolean), Cond.methodLink RX7 88 yX7_step, Cond.instanceMethod yX7_step, Cond.selects RX7 yX7_step yX7_step, Cond.code yX7_step cX7_step 2 none, Cond.fieldLink RX7 66 "TownBandModel" "spot" "I", Cond.constantLong RX7 76 (97), Cond.constantLong RX7 78 (122), Cond.constantLong RX7 80 (48), Cond.constantLong RX7 82 (57), Cond.methodLink RX7 69 yX7_byteAt, Cond.instanceMethod yX7_byteAt]
def wsX7_other_r2 : List Cond := [Cond.selects RX7 yX7_byteAt yX7_byteAt, Cond.code yX7_byteAt cX7_byteAt 2 (some .int), Cond.fieldLink RX7 50 "TownBandModel" "taped" "I", Cond.fieldLink RX7 16 "TownBandModel" "tape" "[I"]
def wsX7_other : List Cond := .code yX7_other cX7_other 5 (some .int) :: ((wsX7_other_r1 ++ wsX7_other_r2) ++ wsX70)
def wsX7_readTower_r1 : List Cond := [Cond.fieldLink RX7 54 "TownBandModel" "broken" "I", Cond.fieldLink RX7 63 "TownBandModel" "token" "I", Cond.fieldLink RX7 91 "TownBandModel" "towerTold" "I", Cond.fieldLink RX7 13 "TownBandModel" "readPage" "[I", Cond.methodLink RX7 94 yX7_other, Cond.instanceMethod yX7_other, Cond.selects RX7 yX7_other yX7_other, Cond.initialized RX7, Cond.code yX7_other cX7_other 5 (some .int), Cond.fieldLink RX7 73 "TownBandModel" "value" "I", Cond.methodLink RX7 84 yX7_fails, Cond.instanceMethod yX7_fails, Cond.selects RX7 yX7_fails yX7_fails, Cond.code yX7_fails cX7_fails 2 none, Cond.fieldLink RX7 57 "TownBandModel" "here" "I", Cond.fieldLink RX7 60 "TownBandModel" "brokenAt" "I", Cond.methodLink RX7 46 yX7_in, Cond.static yX7_in, Cond.code yX7_in cX7_in 6 (some .boolean), Cond.methodLink RX7 88 yX7_step, Cond.instanceMethod yX7_step, Cond.selects RX7 yX7_step yX7_step, Cond.code yX7_step cX7_step 2 none, Cond.fieldLink RX7 66 "TownBandModel" "spot" "I"]
def wsX7_readTower_r2 : List Cond := [Cond.constantLong RX7 76 (97), Cond.constantLong RX7 78 (122), Cond.constantLong RX7 80 (48), Cond.constantLong RX7 82 (57), Cond.methodLink RX7 69 yX7_byteAt, Cond.instanceMethod yX7_byteAt, Cond.selects RX7 yX7_byteAt yX7_byteAt, Cond.code yX7_byteAt cX7_byteAt 2 (some .int), Cond.fieldLink RX7 50 "TownBandModel" "taped" "I", Cond.fieldLink RX7 16 "TownBandModel" "tape" "[I"]
def wsX7_readTower : List Cond := .code yX7_readTower cX7_readTower 2 none :: ((wsX7_readTower_r1 ++ wsX7_readTower_r2) ++ wsX70)
def wsX7_readBeds_r1 : List Cond := [Cond.fieldLink RX7 54 "TownBandModel" "broken" "I", Cond.fieldLink RX7 63 "TownBandModel" "token" "I", Cond.fieldLink RX7 98 "TownBandModel" "bedsTold" "I", Cond.fieldLink RX7 13 "TownBandModel" "readPage" "[I", Cond.fieldLink RX7 101 "TownBandModel" "bedMany" "I", Cond.methodLink RX7 94 yX7_other, Cond.instanceMethod yX7_other, Cond.selects RX7 yX7_other yX7_other, Cond.initialized RX7, Cond.code yX7_other cX7_other 5 (some .int), Cond.fieldLink RX7 73 "TownBandModel" "value" "I", Cond.methodLink RX7 84 yX7_fails, Cond.instanceMethod yX7_fails, Cond.selects RX7 yX7_fails yX7_fails, Cond.code yX7_fails cX7_fails 2 none, Cond.fieldLink RX7 57 "TownBandModel" "here" "I", Cond.fieldLink RX7 60 "TownBandModel" "brokenAt" "I", Cond.methodLink RX7 46 yX7_in, Cond.static yX7_in, Cond.code yX7_in cX7_in 6 (some .boolean), Cond.methodLink RX7 88 yX7_step, Cond.instanceMethod yX7_step, Cond.selects RX7 yX7_step yX7_step, Cond.code yX7_step cX7_step 2 none]
def wsX7_readBeds_r2 : List Cond := [Cond.fieldLink RX7 66 "TownBandModel" "spot" "I", Cond.constantLong RX7 76 (97), Cond.constantLong RX7 78 (122), Cond.constantLong RX7 80 (48), Cond.constantLong RX7 82 (57), Cond.methodLink RX7 69 yX7_byteAt, Cond.instanceMethod yX7_byteAt, Cond.selects RX7 yX7_byteAt yX7_byteAt, Cond.code yX7_byteAt cX7_byteAt 2 (some .int), Cond.fieldLink RX7 50 "TownBandModel" "taped" "I", Cond.fieldLink RX7 16 "TownBandModel" "tape" "[I"]
def wsX7_readBeds : List Cond := .code yX7_readBeds cX7_readBeds 2 none :: ((wsX7_readBeds_r1 ++ wsX7_readBeds_r2) ++ wsX70)
def wsX7_readMore_r1 : List Cond := [Cond.fieldLink RX7 13 "TownBandModel" "readPage" "[I", Cond.fieldLink RX7 104 "TownBandModel" "readBeasts" "I", Cond.fieldLink RX7 107 "TownBandModel" "readRobbers" "I", Cond.methodLink RX7 94 yX7_other, Cond.instanceMethod yX7_other, Cond.selects RX7 yX7_other yX7_other, Cond.initialized RX7, Cond.code yX7_other cX7_other 5 (some .int), Cond.fieldLink RX7 54 "TownBandModel" "broken" "I", Cond.fieldLink RX7 63 "TownBandModel" "token" "I", Cond.fieldLink RX7 73 "TownBandModel" "value" "I", Cond.methodLink RX7 84 yX7_fails, Cond.instanceMethod yX7_fails, Cond.selects RX7 yX7_fails yX7_fails, Cond.code yX7_fails cX7_fails 2 none, Cond.fieldLink RX7 57 "TownBandModel" "here" "I", Cond.fieldLink RX7 60 "TownBandModel" "brokenAt" "I", Cond.methodLink RX7 46 yX7_in, Cond.static yX7_in, Cond.code yX7_in cX7_in 6 (some .boolean), Cond.methodLink RX7 88 yX7_step, Cond.instanceMethod yX7_step, Cond.selects RX7 yX7_step yX7_step, Cond.code yX7_step cX7_step 2 none]
def wsX7_readMore_r2 : List Cond := [Cond.fieldLink RX7 66 "TownBandModel" "spot" "I", Cond.constantLong RX7 76 (97), Cond.constantLong RX7 78 (122), Cond.constantLong RX7 80 (48), Cond.constantLong RX7 82 (57), Cond.methodLink RX7 69 yX7_byteAt, Cond.instanceMethod yX7_byteAt, Cond.selects RX7 yX7_byteAt yX7_byteAt, Cond.code yX7_byteAt cX7_byteAt 2 (some .int), Cond.fieldLink RX7 50 "TownBandModel" "taped" "I", Cond.fieldLink RX7 16 "TownBandModel" "tape" "[I", Cond.methodLink RX7 110 yX7_readTower, Cond.instanceMethod yX7_readTower, Cond.selects RX7 yX7_readTower yX7_readTower, Cond.code yX7_readTower cX7_readTower 2 none, Cond.fieldLink RX7 91 "TownBandModel" "towerTold" "I", Cond.methodLink RX7 113 yX7_readBeds, Cond.instanceMethod yX7_readBeds, Cond.selects RX7 yX7_readBeds yX7_readBeds, Cond.code yX7_readBeds cX7_readBeds 2 none, Cond.fieldLink RX7 98 "TownBandModel" "bedsTold" "I", Cond.fieldLink RX7 101 "TownBandModel" "bedMany" "I"]
def wsX7_readMore : List Cond := .code yX7_readMore cX7_readMore 2 none :: ((wsX7_readMore_r1 ++ wsX7_readMore_r2) ++ wsX70)
def wsX7_readLine_r1 : List Cond := [Cond.constantLong RX7 120 (7), Cond.fieldLink RX7 104 "TownBandModel" "readBeasts" "I", Cond.fieldLink RX7 107 "TownBandModel" "readRobbers" "I", Cond.fieldLink RX7 122 "TownBandModel" "toldOnce" "I", Cond.fieldLink RX7 54 "TownBandModel" "broken" "I", Cond.fieldLink RX7 63 "TownBandModel" "token" "I", Cond.methodLink RX7 116 yX7_nameHere, Cond.instanceMethod yX7_nameHere, Cond.selects RX7 yX7_nameHere yX7_nameHere, Cond.initialized RX7, Cond.code yX7_nameHere cX7_nameHere 4 (some .int), Cond.fieldLink RX7 66 "TownBandModel" "spot" "I", Cond.fieldLink RX7 57 "TownBandModel" "here" "I", Cond.fieldLink RX7 19 "TownBandModel" "cuts" "[I", Cond.fieldLink RX7 22 "TownBandModel" "letters" "[I", Cond.methodLink RX7 69 yX7_byteAt, Cond.instanceMethod yX7_byteAt, Cond.selects RX7 yX7_byteAt yX7_byteAt, Cond.code yX7_byteAt cX7_byteAt 2 (some .int), Cond.fieldLink RX7 50 "TownBandModel" "taped" "I", Cond.fieldLink RX7 16 "TownBandModel" "tape" "[I", Cond.methodLink RX7 46 yX7_in, Cond.static yX7_in, Cond.code yX7_in cX7_in 6 (some .boolean)]
def wsX7_readLine_r2 : List Cond := [Cond.methodLink RX7 84 yX7_fails, Cond.instanceMethod yX7_fails, Cond.selects RX7 yX7_fails yX7_fails, Cond.code yX7_fails cX7_fails 2 none, Cond.fieldLink RX7 60 "TownBandModel" "brokenAt" "I", Cond.methodLink RX7 88 yX7_step, Cond.instanceMethod yX7_step, Cond.selects RX7 yX7_step yX7_step, Cond.code yX7_step cX7_step 2 none, Cond.fieldLink RX7 73 "TownBandModel" "value" "I", Cond.constantLong RX7 76 (97), Cond.constantLong RX7 78 (122), Cond.constantLong RX7 80 (48), Cond.constantLong RX7 82 (57), Cond.methodLink RX7 125 yX7_readMore, Cond.instanceMethod yX7_readMore, Cond.selects RX7 yX7_readMore yX7_readMore, Cond.code yX7_readMore cX7_readMore 2 none, Cond.fieldLink RX7 13 "TownBandModel" "readPage" "[I", Cond.methodLink RX7 94 yX7_other, Cond.instanceMethod yX7_other, Cond.selects RX7 yX7_other yX7_other, Cond.code yX7_other cX7_other 5 (some .int), Cond.methodLink RX7 110 yX7_readTower]
def wsX7_readLine_r3 : List Cond := [Cond.instanceMethod yX7_readTower, Cond.selects RX7 yX7_readTower yX7_readTower, Cond.code yX7_readTower cX7_readTower 2 none, Cond.fieldLink RX7 91 "TownBandModel" "towerTold" "I", Cond.methodLink RX7 113 yX7_readBeds, Cond.instanceMethod yX7_readBeds, Cond.selects RX7 yX7_readBeds yX7_readBeds, Cond.code yX7_readBeds cX7_readBeds 2 none, Cond.fieldLink RX7 98 "TownBandModel" "bedsTold" "I", Cond.fieldLink RX7 101 "TownBandModel" "bedMany" "I"]
def wsX7_readLine : List Cond := .code yX7_readLine cX7_readLine 2 none :: ((wsX7_readLine_r1 ++ (wsX7_readLine_r2 ++ wsX7_readLine_r3)) ++ wsX70)
def wsX7_byKind : List Cond := .code yX7_byKind cX7_byKind 2 (some .int) :: ([])
def wsX7_bearsOn : List Cond := .code yX7_bearsOn cX7_bearsOn 3 (some .int) :: ([.fieldLink RX7 7 "TownBandModel" "state" "[I", .methodLink RX7 150 yX7_byKind, .static yX7_byKind, .initialized RX7, .code yX7_byKind cX7_byKind 2 (some .int)] ++ wsX70)
def wsX7_standsOn : List Cond := .code yX7_standsOn cX7_standsOn 6 (some .boolean) :: ([.fieldLink RX7 7 "TownBandModel" "state" "[I", .methodLink RX7 154 yX7_bearsOn, .instanceMethod yX7_bearsOn, .selects RX7 yX7_bearsOn yX7_bearsOn, .initialized RX7, .code yX7_bearsOn cX7_bearsOn 3 (some .int), .methodLink RX7 150 yX7_byKind, .static yX7_byKind, .code yX7_byKind cX7_byKind 2 (some .int)] ++ wsX70)
def wsX7_readWhole_r1 : List Cond := [Cond.fieldLink RX7 104 "TownBandModel" "readBeasts" "I", Cond.fieldLink RX7 91 "TownBandModel" "towerTold" "I", Cond.fieldLink RX7 98 "TownBandModel" "bedsTold" "I", Cond.fieldLink RX7 122 "TownBandModel" "toldOnce" "I", Cond.fieldLink RX7 7 "TownBandModel" "state" "[I", Cond.fieldLink RX7 13 "TownBandModel" "readPage" "[I", Cond.fieldLink RX7 54 "TownBandModel" "broken" "I", Cond.methodLink RX7 84 yX7_fails, Cond.instanceMethod yX7_fails, Cond.selects RX7 yX7_fails yX7_fails, Cond.initialized RX7, Cond.code yX7_fails cX7_fails 2 none, Cond.fieldLink RX7 57 "TownBandModel" "here" "I", Cond.fieldLink RX7 60 "TownBandModel" "brokenAt" "I", Cond.methodLink RX7 128 yX7_standsOn, Cond.instanceMethod yX7_standsOn, Cond.selects RX7 yX7_standsOn yX7_standsOn, Cond.code yX7_standsOn cX7_standsOn 6 (some .boolean), Cond.methodLink RX7 154 yX7_bearsOn, Cond.instanceMethod yX7_bearsOn, Cond.selects RX7 yX7_bearsOn yX7_bearsOn, Cond.code yX7_bearsOn cX7_bearsOn 3 (some .int), Cond.methodLink RX7 150 yX7_byKind, Cond.static yX7_byKind]
def wsX7_readWhole_r2 : List Cond := [Cond.code yX7_byKind cX7_byKind 2 (some .int)]
def wsX7_readWhole : List Cond := .code yX7_readWhole cX7_readWhole 3 none :: ((wsX7_readWhole_r1 ++ wsX7_readWhole_r2) ++ wsX70)
def wsX7_text_r1 : List Cond := [Cond.fieldLink RX7 54 "TownBandModel" "broken" "I", Cond.fieldLink RX7 66 "TownBandModel" "spot" "I", Cond.fieldLink RX7 104 "TownBandModel" "readBeasts" "I", Cond.fieldLink RX7 107 "TownBandModel" "readRobbers" "I", Cond.fieldLink RX7 122 "TownBandModel" "toldOnce" "I", Cond.fieldLink RX7 91 "TownBandModel" "towerTold" "I", Cond.fieldLink RX7 98 "TownBandModel" "bedsTold" "I", Cond.fieldLink RX7 101 "TownBandModel" "bedMany" "I", Cond.fieldLink RX7 13 "TownBandModel" "readPage" "[I", Cond.fieldLink RX7 63 "TownBandModel" "token" "I", Cond.fieldLink RX7 50 "TownBandModel" "taped" "I", Cond.fieldLink RX7 138 "TownBandModel" "fault" "I", Cond.fieldLink RX7 60 "TownBandModel" "brokenAt" "I", Cond.fieldLink RX7 7 "TownBandModel" "state" "[I", Cond.fieldLink RX7 141 "TownBandModel" "beastMany" "I", Cond.fieldLink RX7 144 "TownBandModel" "robberMany" "I", Cond.fieldLink RX7 147 "TownBandModel" "seenMany" "I", Cond.fieldLink RX7 31 "TownBandModel" "isKept" "[Z", Cond.methodLink RX7 88 yX7_step, Cond.instanceMethod yX7_step, Cond.selects RX7 yX7_step yX7_step, Cond.initialized RX7, Cond.code yX7_step cX7_step 2 none, Cond.fieldLink RX7 57 "TownBandModel" "here" "I"]
def wsX7_text_r2 : List Cond := [Cond.fieldLink RX7 73 "TownBandModel" "value" "I", Cond.constantLong RX7 76 (97), Cond.constantLong RX7 78 (122), Cond.constantLong RX7 80 (48), Cond.constantLong RX7 82 (57), Cond.methodLink RX7 69 yX7_byteAt, Cond.instanceMethod yX7_byteAt, Cond.selects RX7 yX7_byteAt yX7_byteAt, Cond.code yX7_byteAt cX7_byteAt 2 (some .int), Cond.fieldLink RX7 16 "TownBandModel" "tape" "[I", Cond.methodLink RX7 46 yX7_in, Cond.static yX7_in, Cond.code yX7_in cX7_in 6 (some .boolean), Cond.methodLink RX7 84 yX7_fails, Cond.instanceMethod yX7_fails, Cond.selects RX7 yX7_fails yX7_fails, Cond.code yX7_fails cX7_fails 2 none, Cond.methodLink RX7 132 yX7_readLine, Cond.instanceMethod yX7_readLine, Cond.selects RX7 yX7_readLine yX7_readLine, Cond.code yX7_readLine cX7_readLine 2 none, Cond.constantLong RX7 120 (7), Cond.methodLink RX7 116 yX7_nameHere, Cond.instanceMethod yX7_nameHere]
def wsX7_text_r3 : List Cond := [Cond.selects RX7 yX7_nameHere yX7_nameHere, Cond.code yX7_nameHere cX7_nameHere 4 (some .int), Cond.fieldLink RX7 19 "TownBandModel" "cuts" "[I", Cond.fieldLink RX7 22 "TownBandModel" "letters" "[I", Cond.methodLink RX7 125 yX7_readMore, Cond.instanceMethod yX7_readMore, Cond.selects RX7 yX7_readMore yX7_readMore, Cond.code yX7_readMore cX7_readMore 2 none, Cond.methodLink RX7 94 yX7_other, Cond.instanceMethod yX7_other, Cond.selects RX7 yX7_other yX7_other, Cond.code yX7_other cX7_other 5 (some .int), Cond.methodLink RX7 110 yX7_readTower, Cond.instanceMethod yX7_readTower, Cond.selects RX7 yX7_readTower yX7_readTower, Cond.code yX7_readTower cX7_readTower 2 none, Cond.methodLink RX7 113 yX7_readBeds, Cond.instanceMethod yX7_readBeds, Cond.selects RX7 yX7_readBeds yX7_readBeds, Cond.code yX7_readBeds cX7_readBeds 2 none, Cond.methodLink RX7 135 yX7_readWhole, Cond.instanceMethod yX7_readWhole, Cond.selects RX7 yX7_readWhole yX7_readWhole, Cond.code yX7_readWhole cX7_readWhole 3 none]
def wsX7_text_r4 : List Cond := [Cond.methodLink RX7 128 yX7_standsOn, Cond.instanceMethod yX7_standsOn, Cond.selects RX7 yX7_standsOn yX7_standsOn, Cond.code yX7_standsOn cX7_standsOn 6 (some .boolean), Cond.methodLink RX7 154 yX7_bearsOn, Cond.instanceMethod yX7_bearsOn, Cond.selects RX7 yX7_bearsOn yX7_bearsOn, Cond.code yX7_bearsOn cX7_bearsOn 3 (some .int), Cond.methodLink RX7 150 yX7_byKind, Cond.static yX7_byKind, Cond.code yX7_byKind cX7_byKind 2 (some .int)]
def wsX7_text : List Cond := .code yX7_text cX7_text 3 (some .int) :: ((wsX7_text_r1 ++ (wsX7_text_r2 ++ (wsX7_text_r3 ++ wsX7_text_r4))) ++ wsX70)
def wsX7_fault : List Cond := .code yX7_fault cX7_fault 1 (some .int) :: ([.fieldLink RX7 138 "TownBandModel" "fault" "I"] ++ wsX70)
def wsX7_isBeast : List Cond := .code yX7_isBeast cX7_isBeast 2 (some .boolean) :: ([.fieldLink RX7 141 "TownBandModel" "beastMany" "I", .methodLink RX7 46 yX7_in, .static yX7_in, .initialized RX7, .code yX7_in cX7_in 6 (some .boolean)] ++ wsX70)
def wsX7_isRobber : List Cond := .code yX7_isRobber cX7_isRobber 2 (some .boolean) :: ([.fieldLink RX7 144 "TownBandModel" "robberMany" "I", .methodLink RX7 46 yX7_in, .static yX7_in, .initialized RX7, .code yX7_in cX7_in 6 (some .boolean)] ++ wsX70)
def wsX7_hurts : List Cond := .code yX7_hurts cX7_hurts 2 (some .int) :: ([.fieldLink RX7 7 "TownBandModel" "state" "[I", .methodLink RX7 150 yX7_byKind, .static yX7_byKind, .initialized RX7, .code yX7_byKind cX7_byKind 2 (some .int)] ++ wsX70)
def wsX7_placeOf : List Cond := .code yX7_placeOf cX7_placeOf 3 (some .int) :: ([.fieldLink RX7 7 "TownBandModel" "state" "[I"] ++ wsX70)
def wsX7_inTower : List Cond := .code yX7_inTower cX7_inTower 3 (some .int) :: ([.fieldLink RX7 7 "TownBandModel" "state" "[I"] ++ wsX70)
def wsX7_bedBeast : List Cond := .code yX7_bedBeast cX7_bedBeast 2 (some .int) :: ([.fieldLink RX7 7 "TownBandModel" "state" "[I"] ++ wsX70)
def wsX7_bedOf : List Cond := .code yX7_bedOf cX7_bedOf 4 (some .int) :: ([.fieldLink RX7 141 "TownBandModel" "beastMany" "I", .methodLink RX7 157 yX7_bedBeast, .instanceMethod yX7_bedBeast, .selects RX7 yX7_bedBeast yX7_bedBeast, .initialized RX7, .code yX7_bedBeast cX7_bedBeast 2 (some .int), .fieldLink RX7 7 "TownBandModel" "state" "[I"] ++ wsX70)
def wsX7_rule : List Cond := .code yX7_rule cX7_rule 2 (some .int) :: ([.fieldLink RX7 141 "TownBandModel" "beastMany" "I", .fieldLink RX7 144 "TownBandModel" "robberMany" "I", .fieldLink RX7 7 "TownBandModel" "state" "[I", .methodLink RX7 160 yX7_inTower, .instanceMethod yX7_inTower, .selects RX7 yX7_inTower yX7_inTower, .initialized RX7, .code yX7_inTower cX7_inTower 3 (some .int)] ++ wsX70)
def wsX7_beast_r1 : List Cond := [Cond.fieldLink RX7 7 "TownBandModel" "state" "[I", Cond.methodLink RX7 163 yX7_isBeast, Cond.instanceMethod yX7_isBeast, Cond.selects RX7 yX7_isBeast yX7_isBeast, Cond.initialized RX7, Cond.code yX7_isBeast cX7_isBeast 2 (some .boolean), Cond.fieldLink RX7 141 "TownBandModel" "beastMany" "I", Cond.methodLink RX7 46 yX7_in, Cond.static yX7_in, Cond.code yX7_in cX7_in 6 (some .boolean), Cond.methodLink RX7 154 yX7_bearsOn, Cond.instanceMethod yX7_bearsOn, Cond.selects RX7 yX7_bearsOn yX7_bearsOn, Cond.code yX7_bearsOn cX7_bearsOn 3 (some .int), Cond.methodLink RX7 150 yX7_byKind, Cond.static yX7_byKind, Cond.code yX7_byKind cX7_byKind 2 (some .int), Cond.methodLink RX7 166 yX7_hurts, Cond.instanceMethod yX7_hurts, Cond.selects RX7 yX7_hurts yX7_hurts, Cond.code yX7_hurts cX7_hurts 2 (some .int), Cond.methodLink RX7 169 yX7_placeOf, Cond.instanceMethod yX7_placeOf, Cond.selects RX7 yX7_placeOf yX7_placeOf]
def wsX7_beast_r2 : List Cond := [Cond.code yX7_placeOf cX7_placeOf 3 (some .int), Cond.methodLink RX7 172 yX7_bedOf, Cond.instanceMethod yX7_bedOf, Cond.selects RX7 yX7_bedOf yX7_bedOf, Cond.code yX7_bedOf cX7_bedOf 4 (some .int), Cond.methodLink RX7 157 yX7_bedBeast, Cond.instanceMethod yX7_bedBeast, Cond.selects RX7 yX7_bedBeast yX7_bedBeast, Cond.code yX7_bedBeast cX7_bedBeast 2 (some .int)]
def wsX7_beast : List Cond := .code yX7_beast cX7_beast 3 (some .int) :: ((wsX7_beast_r1 ++ wsX7_beast_r2) ++ wsX70)
def wsX7_robber : List Cond := .code yX7_robber cX7_robber 2 (some .int) :: ([.fieldLink RX7 7 "TownBandModel" "state" "[I", .methodLink RX7 175 yX7_isRobber, .instanceMethod yX7_isRobber, .selects RX7 yX7_isRobber yX7_isRobber, .initialized RX7, .code yX7_isRobber cX7_isRobber 2 (some .boolean), .fieldLink RX7 144 "TownBandModel" "robberMany" "I", .methodLink RX7 46 yX7_in, .static yX7_in, .code yX7_in cX7_in 6 (some .boolean)] ++ wsX70)
def wsX7_at : List Cond := .code yX7_at cX7_at 3 (some .int) :: ([.fieldLink RX7 7 "TownBandModel" "state" "[I", .methodLink RX7 46 yX7_in, .static yX7_in, .initialized RX7, .code yX7_in cX7_in 6 (some .boolean), .methodLink RX7 163 yX7_isBeast, .instanceMethod yX7_isBeast, .selects RX7 yX7_isBeast yX7_isBeast, .code yX7_isBeast cX7_isBeast 2 (some .boolean), .fieldLink RX7 141 "TownBandModel" "beastMany" "I", .methodLink RX7 157 yX7_bedBeast, .instanceMethod yX7_bedBeast, .selects RX7 yX7_bedBeast yX7_bedBeast, .code yX7_bedBeast cX7_bedBeast 2 (some .int)] ++ wsX70)
def wsX7_puts : List Cond := .code yX7_puts cX7_puts 6 (some .int) :: ([.fieldLink RX7 7 "TownBandModel" "state" "[I"] ++ wsX70)
def wsX7_alter_r1 : List Cond := [Cond.constantLong RX7 178 (3), Cond.constantLong RX7 180 (9), Cond.fieldLink RX7 7 "TownBandModel" "state" "[I", Cond.methodLink RX7 46 yX7_in, Cond.static yX7_in, Cond.initialized RX7, Cond.code yX7_in cX7_in 6 (some .boolean), Cond.methodLink RX7 163 yX7_isBeast, Cond.instanceMethod yX7_isBeast, Cond.selects RX7 yX7_isBeast yX7_isBeast, Cond.code yX7_isBeast cX7_isBeast 2 (some .boolean), Cond.fieldLink RX7 141 "TownBandModel" "beastMany" "I", Cond.methodLink RX7 182 yX7_puts, Cond.instanceMethod yX7_puts, Cond.selects RX7 yX7_puts yX7_puts, Cond.code yX7_puts cX7_puts 6 (some .int), Cond.methodLink RX7 128 yX7_standsOn, Cond.instanceMethod yX7_standsOn, Cond.selects RX7 yX7_standsOn yX7_standsOn, Cond.code yX7_standsOn cX7_standsOn 6 (some .boolean), Cond.methodLink RX7 154 yX7_bearsOn, Cond.instanceMethod yX7_bearsOn, Cond.selects RX7 yX7_bearsOn yX7_bearsOn, Cond.code yX7_bearsOn cX7_bearsOn 3 (some .int)]
def wsX7_alter_r2 : List Cond := [Cond.methodLink RX7 150 yX7_byKind, Cond.static yX7_byKind, Cond.code yX7_byKind cX7_byKind 2 (some .int)]
def wsX7_alter : List Cond := .code yX7_alter cX7_alter 6 (some .int) :: ((wsX7_alter_r1 ++ wsX7_alter_r2) ++ wsX70)
def wsX7_steel : List Cond := .code yX7_steel cX7_steel 3 (some .int) :: ([.constantLong RX7 186 (99), .methodLink RX7 175 yX7_isRobber, .instanceMethod yX7_isRobber, .selects RX7 yX7_isRobber yX7_isRobber, .initialized RX7, .code yX7_isRobber cX7_isRobber 2 (some .boolean), .fieldLink RX7 144 "TownBandModel" "robberMany" "I", .methodLink RX7 46 yX7_in, .static yX7_in, .code yX7_in cX7_in 6 (some .boolean), .methodLink RX7 182 yX7_puts, .instanceMethod yX7_puts, .selects RX7 yX7_puts yX7_puts, .code yX7_puts cX7_puts 6 (some .int), .fieldLink RX7 7 "TownBandModel" "state" "[I"] ++ wsX70)
def wsX7_scout : List Cond := .code yX7_scout cX7_scout 2 (some .int) :: ([.constantLong RX7 188 (40), .methodLink RX7 46 yX7_in, .static yX7_in, .initialized RX7, .code yX7_in cX7_in 6 (some .boolean), .methodLink RX7 182 yX7_puts, .instanceMethod yX7_puts, .selects RX7 yX7_puts yX7_puts, .code yX7_puts cX7_puts 6 (some .int), .fieldLink RX7 7 "TownBandModel" "state" "[I"] ++ wsX70)
def wsX7_climbs_r1 : List Cond := [Cond.fieldLink RX7 7 "TownBandModel" "state" "[I", Cond.methodLink RX7 163 yX7_isBeast, Cond.instanceMethod yX7_isBeast, Cond.selects RX7 yX7_isBeast yX7_isBeast, Cond.initialized RX7, Cond.code yX7_isBeast cX7_isBeast 2 (some .boolean), Cond.fieldLink RX7 141 "TownBandModel" "beastMany" "I", Cond.methodLink RX7 46 yX7_in, Cond.static yX7_in, Cond.code yX7_in cX7_in 6 (some .boolean), Cond.methodLink RX7 169 yX7_placeOf, Cond.instanceMethod yX7_placeOf, Cond.selects RX7 yX7_placeOf yX7_placeOf, Cond.code yX7_placeOf cX7_placeOf 3 (some .int), Cond.methodLink RX7 128 yX7_standsOn, Cond.instanceMethod yX7_standsOn, Cond.selects RX7 yX7_standsOn yX7_standsOn, Cond.code yX7_standsOn cX7_standsOn 6 (some .boolean), Cond.methodLink RX7 154 yX7_bearsOn, Cond.instanceMethod yX7_bearsOn, Cond.selects RX7 yX7_bearsOn yX7_bearsOn, Cond.code yX7_bearsOn cX7_bearsOn 3 (some .int), Cond.methodLink RX7 150 yX7_byKind, Cond.static yX7_byKind]
def wsX7_climbs_r2 : List Cond := [Cond.code yX7_byKind cX7_byKind 2 (some .int)]
def wsX7_climbs : List Cond := .code yX7_climbs cX7_climbs 2 (some .int) :: ((wsX7_climbs_r1 ++ wsX7_climbs_r2) ++ wsX70)
def wsX7_climb_r1 : List Cond := [Cond.methodLink RX7 190 yX7_climbs, Cond.instanceMethod yX7_climbs, Cond.selects RX7 yX7_climbs yX7_climbs, Cond.initialized RX7, Cond.code yX7_climbs cX7_climbs 2 (some .int), Cond.fieldLink RX7 7 "TownBandModel" "state" "[I", Cond.methodLink RX7 163 yX7_isBeast, Cond.instanceMethod yX7_isBeast, Cond.selects RX7 yX7_isBeast yX7_isBeast, Cond.code yX7_isBeast cX7_isBeast 2 (some .boolean), Cond.fieldLink RX7 141 "TownBandModel" "beastMany" "I", Cond.methodLink RX7 46 yX7_in, Cond.static yX7_in, Cond.code yX7_in cX7_in 6 (some .boolean), Cond.methodLink RX7 169 yX7_placeOf, Cond.instanceMethod yX7_placeOf, Cond.selects RX7 yX7_placeOf yX7_placeOf, Cond.code yX7_placeOf cX7_placeOf 3 (some .int), Cond.methodLink RX7 128 yX7_standsOn, Cond.instanceMethod yX7_standsOn, Cond.selects RX7 yX7_standsOn yX7_standsOn, Cond.code yX7_standsOn cX7_standsOn 6 (some .boolean), Cond.methodLink RX7 154 yX7_bearsOn, Cond.instanceMethod yX7_bearsOn]
def wsX7_climb_r2 : List Cond := [Cond.selects RX7 yX7_bearsOn yX7_bearsOn, Cond.code yX7_bearsOn cX7_bearsOn 3 (some .int), Cond.methodLink RX7 150 yX7_byKind, Cond.static yX7_byKind, Cond.code yX7_byKind cX7_byKind 2 (some .int)]
def wsX7_climb : List Cond := .code yX7_climb cX7_climb 2 (some .int) :: ((wsX7_climb_r1 ++ wsX7_climb_r2) ++ wsX70)
def wsX7_down : List Cond := .code yX7_down cX7_down 2 (some .int) :: ([.fieldLink RX7 7 "TownBandModel" "state" "[I", .methodLink RX7 46 yX7_in, .static yX7_in, .initialized RX7, .code yX7_in cX7_in 6 (some .boolean), .methodLink RX7 182 yX7_puts, .instanceMethod yX7_puts, .selects RX7 yX7_puts yX7_puts, .code yX7_puts cX7_puts 6 (some .int)] ++ wsX70)
def wsX7_swap : List Cond := .code yX7_swap cX7_swap 5 (some .int) :: ([.fieldLink RX7 7 "TownBandModel" "state" "[I", .methodLink RX7 163 yX7_isBeast, .instanceMethod yX7_isBeast, .selects RX7 yX7_isBeast yX7_isBeast, .initialized RX7, .code yX7_isBeast cX7_isBeast 2 (some .boolean), .fieldLink RX7 141 "TownBandModel" "beastMany" "I", .methodLink RX7 46 yX7_in, .static yX7_in, .code yX7_in cX7_in 6 (some .boolean), .methodLink RX7 157 yX7_bedBeast, .instanceMethod yX7_bedBeast, .selects RX7 yX7_bedBeast yX7_bedBeast, .code yX7_bedBeast cX7_bedBeast 2 (some .int)] ++ wsX70)
def wsX7_noiseBy : List Cond := .code yX7_noiseBy cX7_noiseBy 4 (some .int) :: ([.fieldLink RX7 7 "TownBandModel" "state" "[I"] ++ wsX70)
def wsX7_noise : List Cond := .code yX7_noise cX7_noise 1 (some .int) :: ([.methodLink RX7 193 yX7_noiseBy, .instanceMethod yX7_noiseBy, .selects RX7 yX7_noiseBy yX7_noiseBy, .initialized RX7, .code yX7_noiseBy cX7_noiseBy 4 (some .int), .fieldLink RX7 7 "TownBandModel" "state" "[I"] ++ wsX70)
def wsX7_fleeBy : List Cond := .code yX7_fleeBy cX7_fleeBy 5 (some .int) :: ([.fieldLink RX7 144 "TownBandModel" "robberMany" "I", .fieldLink RX7 7 "TownBandModel" "state" "[I"] ++ wsX70)
def wsX7_bitsOf : List Cond := .code yX7_bitsOf cX7_bitsOf 3 (some .int) :: ([])
def wsX7_flight : List Cond := .code yX7_flight cX7_flight 3 (some .int) :: ([.methodLink RX7 193 yX7_noiseBy, .instanceMethod yX7_noiseBy, .selects RX7 yX7_noiseBy yX7_noiseBy, .initialized RX7, .code yX7_noiseBy cX7_noiseBy 4 (some .int), .fieldLink RX7 7 "TownBandModel" "state" "[I", .methodLink RX7 196 yX7_fleeBy, .instanceMethod yX7_fleeBy, .selects RX7 yX7_fleeBy yX7_fleeBy, .code yX7_fleeBy cX7_fleeBy 5 (some .int), .fieldLink RX7 144 "TownBandModel" "robberMany" "I", .methodLink RX7 199 yX7_bitsOf, .static yX7_bitsOf, .code yX7_bitsOf cX7_bitsOf 3 (some .int)] ++ wsX70)
def wsX7_free_r1 : List Cond := [Cond.fieldLink RX7 141 "TownBandModel" "beastMany" "I", Cond.fieldLink RX7 7 "TownBandModel" "state" "[I", Cond.methodLink RX7 190 yX7_climbs, Cond.instanceMethod yX7_climbs, Cond.selects RX7 yX7_climbs yX7_climbs, Cond.initialized RX7, Cond.code yX7_climbs cX7_climbs 2 (some .int), Cond.methodLink RX7 163 yX7_isBeast, Cond.instanceMethod yX7_isBeast, Cond.selects RX7 yX7_isBeast yX7_isBeast, Cond.code yX7_isBeast cX7_isBeast 2 (some .boolean), Cond.methodLink RX7 46 yX7_in, Cond.static yX7_in, Cond.code yX7_in cX7_in 6 (some .boolean), Cond.methodLink RX7 169 yX7_placeOf, Cond.instanceMethod yX7_placeOf, Cond.selects RX7 yX7_placeOf yX7_placeOf, Cond.code yX7_placeOf cX7_placeOf 3 (some .int), Cond.methodLink RX7 128 yX7_standsOn, Cond.instanceMethod yX7_standsOn, Cond.selects RX7 yX7_standsOn yX7_standsOn, Cond.code yX7_standsOn cX7_standsOn 6 (some .boolean), Cond.methodLink RX7 154 yX7_bearsOn, Cond.instanceMethod yX7_bearsOn]
def wsX7_free_r2 : List Cond := [Cond.selects RX7 yX7_bearsOn yX7_bearsOn, Cond.code yX7_bearsOn cX7_bearsOn 3 (some .int), Cond.methodLink RX7 150 yX7_byKind, Cond.static yX7_byKind, Cond.code yX7_byKind cX7_byKind 2 (some .int)]
def wsX7_free : List Cond := .code yX7_free cX7_free 3 (some .int) :: ((wsX7_free_r1 ++ wsX7_free_r2) ++ wsX70)
def wsX7_need : List Cond := .code yX7_need cX7_need 4 (some .int) :: ([.fieldLink RX7 144 "TownBandModel" "robberMany" "I", .fieldLink RX7 7 "TownBandModel" "state" "[I"] ++ wsX70)
def wsX7_copies : List Cond := .code yX7_copies cX7_copies 4 none :: ([.fieldLink RX7 7 "TownBandModel" "state" "[I"] ++ wsX70)
def wsX7_powerOf : List Cond := .code yX7_powerOf cX7_powerOf 3 (some .int) :: ([])
def wsX7_figureOf : List Cond := .code yX7_figureOf cX7_figureOf 3 (some .int) :: ([.methodLink RX7 202 yX7_powerOf, .static yX7_powerOf, .initialized RX7, .code yX7_powerOf cX7_powerOf 3 (some .int)])
def wsX7_rowOf : List Cond := .code yX7_rowOf cX7_rowOf 6 (some .int) :: ([.methodLink RX7 205 yX7_figureOf, .static yX7_figureOf, .initialized RX7, .code yX7_figureOf cX7_figureOf 3 (some .int), .methodLink RX7 202 yX7_powerOf, .static yX7_powerOf, .code yX7_powerOf cX7_powerOf 3 (some .int), .methodLink RX7 163 yX7_isBeast, .instanceMethod yX7_isBeast, .selects RX7 yX7_isBeast yX7_isBeast, .code yX7_isBeast cX7_isBeast 2 (some .boolean), .fieldLink RX7 141 "TownBandModel" "beastMany" "I", .methodLink RX7 46 yX7_in, .static yX7_in, .code yX7_in cX7_in 6 (some .boolean)] ++ wsX70)
def wsX7_laysTower_r1 : List Cond := [Cond.fieldLink RX7 7 "TownBandModel" "state" "[I", Cond.methodLink RX7 208 yX7_rowOf, Cond.instanceMethod yX7_rowOf, Cond.selects RX7 yX7_rowOf yX7_rowOf, Cond.initialized RX7, Cond.code yX7_rowOf cX7_rowOf 6 (some .int), Cond.methodLink RX7 205 yX7_figureOf, Cond.static yX7_figureOf, Cond.code yX7_figureOf cX7_figureOf 3 (some .int), Cond.methodLink RX7 202 yX7_powerOf, Cond.static yX7_powerOf, Cond.code yX7_powerOf cX7_powerOf 3 (some .int), Cond.methodLink RX7 163 yX7_isBeast, Cond.instanceMethod yX7_isBeast, Cond.selects RX7 yX7_isBeast yX7_isBeast, Cond.code yX7_isBeast cX7_isBeast 2 (some .boolean), Cond.fieldLink RX7 141 "TownBandModel" "beastMany" "I", Cond.methodLink RX7 46 yX7_in, Cond.static yX7_in, Cond.code yX7_in cX7_in 6 (some .boolean), Cond.methodLink RX7 128 yX7_standsOn, Cond.instanceMethod yX7_standsOn, Cond.selects RX7 yX7_standsOn yX7_standsOn, Cond.code yX7_standsOn cX7_standsOn 6 (some .boolean)]
def wsX7_laysTower_r2 : List Cond := [Cond.methodLink RX7 154 yX7_bearsOn, Cond.instanceMethod yX7_bearsOn, Cond.selects RX7 yX7_bearsOn yX7_bearsOn, Cond.code yX7_bearsOn cX7_bearsOn 3 (some .int), Cond.methodLink RX7 150 yX7_byKind, Cond.static yX7_byKind, Cond.code yX7_byKind cX7_byKind 2 (some .int)]
def wsX7_laysTower : List Cond := .code yX7_laysTower cX7_laysTower 6 (some .boolean) :: ((wsX7_laysTower_r1 ++ wsX7_laysTower_r2) ++ wsX70)
def wsX7_allTowers_r1 : List Cond := [Cond.fieldLink RX7 215 "TownBandModel" "bestMany" "I", Cond.fieldLink RX7 218 "TownBandModel" "towerMany" "I", Cond.fieldLink RX7 141 "TownBandModel" "beastMany" "I", Cond.fieldLink RX7 225 "TownBandModel" "bestNoise" "I", Cond.fieldLink RX7 228 "TownBandModel" "bestCode" "I", Cond.fieldLink RX7 231 "TownBandModel" "bestSize" "I", Cond.methodLink RX7 211 yX7_copies, Cond.instanceMethod yX7_copies, Cond.selects RX7 yX7_copies yX7_copies, Cond.initialized RX7, Cond.code yX7_copies cX7_copies 4 none, Cond.fieldLink RX7 7 "TownBandModel" "state" "[I", Cond.methodLink RX7 202 yX7_powerOf, Cond.static yX7_powerOf, Cond.code yX7_powerOf cX7_powerOf 3 (some .int), Cond.methodLink RX7 221 yX7_laysTower, Cond.instanceMethod yX7_laysTower, Cond.selects RX7 yX7_laysTower yX7_laysTower, Cond.code yX7_laysTower cX7_laysTower 6 (some .boolean), Cond.methodLink RX7 208 yX7_rowOf, Cond.instanceMethod yX7_rowOf, Cond.selects RX7 yX7_rowOf yX7_rowOf, Cond.code yX7_rowOf cX7_rowOf 6 (some .int), Cond.methodLink RX7 205 yX7_figureOf]
def wsX7_allTowers_r2 : List Cond := [Cond.static yX7_figureOf, Cond.code yX7_figureOf cX7_figureOf 3 (some .int), Cond.methodLink RX7 163 yX7_isBeast, Cond.instanceMethod yX7_isBeast, Cond.selects RX7 yX7_isBeast yX7_isBeast, Cond.code yX7_isBeast cX7_isBeast 2 (some .boolean), Cond.methodLink RX7 46 yX7_in, Cond.static yX7_in, Cond.code yX7_in cX7_in 6 (some .boolean), Cond.methodLink RX7 128 yX7_standsOn, Cond.instanceMethod yX7_standsOn, Cond.selects RX7 yX7_standsOn yX7_standsOn, Cond.code yX7_standsOn cX7_standsOn 6 (some .boolean), Cond.methodLink RX7 154 yX7_bearsOn, Cond.instanceMethod yX7_bearsOn, Cond.selects RX7 yX7_bearsOn yX7_bearsOn, Cond.code yX7_bearsOn cX7_bearsOn 3 (some .int), Cond.methodLink RX7 150 yX7_byKind, Cond.static yX7_byKind, Cond.code yX7_byKind cX7_byKind 2 (some .int), Cond.methodLink RX7 193 yX7_noiseBy, Cond.instanceMethod yX7_noiseBy, Cond.selects RX7 yX7_noiseBy yX7_noiseBy, Cond.code yX7_noiseBy cX7_noiseBy 4 (some .int)]
def wsX7_allTowers_r3 : List Cond := [Cond.methodLink RX7 196 yX7_fleeBy, Cond.instanceMethod yX7_fleeBy, Cond.selects RX7 yX7_fleeBy yX7_fleeBy, Cond.code yX7_fleeBy cX7_fleeBy 5 (some .int), Cond.fieldLink RX7 144 "TownBandModel" "robberMany" "I", Cond.methodLink RX7 199 yX7_bitsOf, Cond.static yX7_bitsOf, Cond.code yX7_bitsOf cX7_bitsOf 3 (some .int)]
def wsX7_allTowers : List Cond := .code yX7_allTowers cX7_allTowers 7 none :: ((wsX7_allTowers_r1 ++ (wsX7_allTowers_r2 ++ wsX7_allTowers_r3)) ++ wsX70)
def wsX7_placeBy : List Cond := .code yX7_placeBy cX7_placeBy 2 (some .int) :: ([.fieldLink RX7 231 "TownBandModel" "bestSize" "I", .fieldLink RX7 228 "TownBandModel" "bestCode" "I", .methodLink RX7 205 yX7_figureOf, .static yX7_figureOf, .initialized RX7, .code yX7_figureOf cX7_figureOf 3 (some .int), .methodLink RX7 202 yX7_powerOf, .static yX7_powerOf, .code yX7_powerOf cX7_powerOf 3 (some .int)] ++ wsX70)
def wsX7_best_r1 : List Cond := [Cond.constantLong RX7 234 (2), Cond.constantLong RX7 236 (10), Cond.constantLong RX7 238 (14), Cond.fieldLink RX7 215 "TownBandModel" "bestMany" "I", Cond.fieldLink RX7 225 "TownBandModel" "bestNoise" "I", Cond.fieldLink RX7 231 "TownBandModel" "bestSize" "I", Cond.methodLink RX7 46 yX7_in, Cond.static yX7_in, Cond.initialized RX7, Cond.code yX7_in cX7_in 6 (some .boolean), Cond.methodLink RX7 240 yX7_allTowers, Cond.instanceMethod yX7_allTowers, Cond.selects RX7 yX7_allTowers yX7_allTowers, Cond.code yX7_allTowers cX7_allTowers 7 none, Cond.fieldLink RX7 218 "TownBandModel" "towerMany" "I", Cond.fieldLink RX7 141 "TownBandModel" "beastMany" "I", Cond.fieldLink RX7 228 "TownBandModel" "bestCode" "I", Cond.methodLink RX7 211 yX7_copies, Cond.instanceMethod yX7_copies, Cond.selects RX7 yX7_copies yX7_copies, Cond.code yX7_copies cX7_copies 4 none, Cond.fieldLink RX7 7 "TownBandModel" "state" "[I", Cond.methodLink RX7 202 yX7_powerOf, Cond.static yX7_powerOf]
def wsX7_best_r2 : List Cond := [Cond.code yX7_powerOf cX7_powerOf 3 (some .int), Cond.methodLink RX7 221 yX7_laysTower, Cond.instanceMethod yX7_laysTower, Cond.selects RX7 yX7_laysTower yX7_laysTower, Cond.code yX7_laysTower cX7_laysTower 6 (some .boolean), Cond.methodLink RX7 208 yX7_rowOf, Cond.instanceMethod yX7_rowOf, Cond.selects RX7 yX7_rowOf yX7_rowOf, Cond.code yX7_rowOf cX7_rowOf 6 (some .int), Cond.methodLink RX7 205 yX7_figureOf, Cond.static yX7_figureOf, Cond.code yX7_figureOf cX7_figureOf 3 (some .int), Cond.methodLink RX7 163 yX7_isBeast, Cond.instanceMethod yX7_isBeast, Cond.selects RX7 yX7_isBeast yX7_isBeast, Cond.code yX7_isBeast cX7_isBeast 2 (some .boolean), Cond.methodLink RX7 128 yX7_standsOn, Cond.instanceMethod yX7_standsOn, Cond.selects RX7 yX7_standsOn yX7_standsOn, Cond.code yX7_standsOn cX7_standsOn 6 (some .boolean), Cond.methodLink RX7 154 yX7_bearsOn, Cond.instanceMethod yX7_bearsOn, Cond.selects RX7 yX7_bearsOn yX7_bearsOn, Cond.code yX7_bearsOn cX7_bearsOn 3 (some .int)]
def wsX7_best_r3 : List Cond := [Cond.methodLink RX7 150 yX7_byKind, Cond.static yX7_byKind, Cond.code yX7_byKind cX7_byKind 2 (some .int), Cond.methodLink RX7 193 yX7_noiseBy, Cond.instanceMethod yX7_noiseBy, Cond.selects RX7 yX7_noiseBy yX7_noiseBy, Cond.code yX7_noiseBy cX7_noiseBy 4 (some .int), Cond.methodLink RX7 196 yX7_fleeBy, Cond.instanceMethod yX7_fleeBy, Cond.selects RX7 yX7_fleeBy yX7_fleeBy, Cond.code yX7_fleeBy cX7_fleeBy 5 (some .int), Cond.fieldLink RX7 144 "TownBandModel" "robberMany" "I", Cond.methodLink RX7 199 yX7_bitsOf, Cond.static yX7_bitsOf, Cond.code yX7_bitsOf cX7_bitsOf 3 (some .int), Cond.methodLink RX7 243 yX7_placeBy, Cond.instanceMethod yX7_placeBy, Cond.selects RX7 yX7_placeBy yX7_placeBy, Cond.code yX7_placeBy cX7_placeBy 2 (some .int)]
def wsX7_best : List Cond := .code yX7_best cX7_best 2 (some .int) :: ((wsX7_best_r1 ++ (wsX7_best_r2 ++ wsX7_best_r3)) ++ wsX70)
def wsX7_few_r1 : List Cond := [Cond.constantLong RX7 236 (10), Cond.constantLong RX7 238 (14), Cond.fieldLink RX7 215 "TownBandModel" "bestMany" "I", Cond.fieldLink RX7 144 "TownBandModel" "robberMany" "I", Cond.fieldLink RX7 231 "TownBandModel" "bestSize" "I", Cond.fieldLink RX7 225 "TownBandModel" "bestNoise" "I", Cond.methodLink RX7 46 yX7_in, Cond.static yX7_in, Cond.initialized RX7, Cond.code yX7_in cX7_in 6 (some .boolean), Cond.methodLink RX7 240 yX7_allTowers, Cond.instanceMethod yX7_allTowers, Cond.selects RX7 yX7_allTowers yX7_allTowers, Cond.code yX7_allTowers cX7_allTowers 7 none, Cond.fieldLink RX7 218 "TownBandModel" "towerMany" "I", Cond.fieldLink RX7 141 "TownBandModel" "beastMany" "I", Cond.fieldLink RX7 228 "TownBandModel" "bestCode" "I", Cond.methodLink RX7 211 yX7_copies, Cond.instanceMethod yX7_copies, Cond.selects RX7 yX7_copies yX7_copies, Cond.code yX7_copies cX7_copies 4 none, Cond.fieldLink RX7 7 "TownBandModel" "state" "[I", Cond.methodLink RX7 202 yX7_powerOf, Cond.static yX7_powerOf]
def wsX7_few_r2 : List Cond := [Cond.code yX7_powerOf cX7_powerOf 3 (some .int), Cond.methodLink RX7 221 yX7_laysTower, Cond.instanceMethod yX7_laysTower, Cond.selects RX7 yX7_laysTower yX7_laysTower, Cond.code yX7_laysTower cX7_laysTower 6 (some .boolean), Cond.methodLink RX7 208 yX7_rowOf, Cond.instanceMethod yX7_rowOf, Cond.selects RX7 yX7_rowOf yX7_rowOf, Cond.code yX7_rowOf cX7_rowOf 6 (some .int), Cond.methodLink RX7 205 yX7_figureOf, Cond.static yX7_figureOf, Cond.code yX7_figureOf cX7_figureOf 3 (some .int), Cond.methodLink RX7 163 yX7_isBeast, Cond.instanceMethod yX7_isBeast, Cond.selects RX7 yX7_isBeast yX7_isBeast, Cond.code yX7_isBeast cX7_isBeast 2 (some .boolean), Cond.methodLink RX7 128 yX7_standsOn, Cond.instanceMethod yX7_standsOn, Cond.selects RX7 yX7_standsOn yX7_standsOn, Cond.code yX7_standsOn cX7_standsOn 6 (some .boolean), Cond.methodLink RX7 154 yX7_bearsOn, Cond.instanceMethod yX7_bearsOn, Cond.selects RX7 yX7_bearsOn yX7_bearsOn, Cond.code yX7_bearsOn cX7_bearsOn 3 (some .int)]
def wsX7_few_r3 : List Cond := [Cond.methodLink RX7 150 yX7_byKind, Cond.static yX7_byKind, Cond.code yX7_byKind cX7_byKind 2 (some .int), Cond.methodLink RX7 193 yX7_noiseBy, Cond.instanceMethod yX7_noiseBy, Cond.selects RX7 yX7_noiseBy yX7_noiseBy, Cond.code yX7_noiseBy cX7_noiseBy 4 (some .int), Cond.methodLink RX7 196 yX7_fleeBy, Cond.instanceMethod yX7_fleeBy, Cond.selects RX7 yX7_fleeBy yX7_fleeBy, Cond.code yX7_fleeBy cX7_fleeBy 5 (some .int), Cond.methodLink RX7 199 yX7_bitsOf, Cond.static yX7_bitsOf, Cond.code yX7_bitsOf cX7_bitsOf 3 (some .int), Cond.methodLink RX7 243 yX7_placeBy, Cond.instanceMethod yX7_placeBy, Cond.selects RX7 yX7_placeBy yX7_placeBy, Cond.code yX7_placeBy cX7_placeBy 2 (some .int)]
def wsX7_few : List Cond := .code yX7_few cX7_few 2 (some .int) :: ((wsX7_few_r1 ++ (wsX7_few_r2 ++ wsX7_few_r3)) ++ wsX70)
def wsX7_loud_r1 : List Cond := [Cond.constantLong RX7 236 (10), Cond.constantLong RX7 238 (14), Cond.fieldLink RX7 225 "TownBandModel" "bestNoise" "I", Cond.fieldLink RX7 231 "TownBandModel" "bestSize" "I", Cond.methodLink RX7 46 yX7_in, Cond.static yX7_in, Cond.initialized RX7, Cond.code yX7_in cX7_in 6 (some .boolean), Cond.methodLink RX7 240 yX7_allTowers, Cond.instanceMethod yX7_allTowers, Cond.selects RX7 yX7_allTowers yX7_allTowers, Cond.code yX7_allTowers cX7_allTowers 7 none, Cond.fieldLink RX7 215 "TownBandModel" "bestMany" "I", Cond.fieldLink RX7 218 "TownBandModel" "towerMany" "I", Cond.fieldLink RX7 141 "TownBandModel" "beastMany" "I", Cond.fieldLink RX7 228 "TownBandModel" "bestCode" "I", Cond.methodLink RX7 211 yX7_copies, Cond.instanceMethod yX7_copies, Cond.selects RX7 yX7_copies yX7_copies, Cond.code yX7_copies cX7_copies 4 none, Cond.fieldLink RX7 7 "TownBandModel" "state" "[I", Cond.methodLink RX7 202 yX7_powerOf, Cond.static yX7_powerOf, Cond.code yX7_powerOf cX7_powerOf 3 (some .int)]
def wsX7_loud_r2 : List Cond := [Cond.methodLink RX7 221 yX7_laysTower, Cond.instanceMethod yX7_laysTower, Cond.selects RX7 yX7_laysTower yX7_laysTower, Cond.code yX7_laysTower cX7_laysTower 6 (some .boolean), Cond.methodLink RX7 208 yX7_rowOf, Cond.instanceMethod yX7_rowOf, Cond.selects RX7 yX7_rowOf yX7_rowOf, Cond.code yX7_rowOf cX7_rowOf 6 (some .int), Cond.methodLink RX7 205 yX7_figureOf, Cond.static yX7_figureOf, Cond.code yX7_figureOf cX7_figureOf 3 (some .int), Cond.methodLink RX7 163 yX7_isBeast, Cond.instanceMethod yX7_isBeast, Cond.selects RX7 yX7_isBeast yX7_isBeast, Cond.code yX7_isBeast cX7_isBeast 2 (some .boolean), Cond.methodLink RX7 128 yX7_standsOn, Cond.instanceMethod yX7_standsOn, Cond.selects RX7 yX7_standsOn yX7_standsOn, Cond.code yX7_standsOn cX7_standsOn 6 (some .boolean), Cond.methodLink RX7 154 yX7_bearsOn, Cond.instanceMethod yX7_bearsOn, Cond.selects RX7 yX7_bearsOn yX7_bearsOn, Cond.code yX7_bearsOn cX7_bearsOn 3 (some .int), Cond.methodLink RX7 150 yX7_byKind]
def wsX7_loud_r3 : List Cond := [Cond.static yX7_byKind, Cond.code yX7_byKind cX7_byKind 2 (some .int), Cond.methodLink RX7 193 yX7_noiseBy, Cond.instanceMethod yX7_noiseBy, Cond.selects RX7 yX7_noiseBy yX7_noiseBy, Cond.code yX7_noiseBy cX7_noiseBy 4 (some .int), Cond.methodLink RX7 196 yX7_fleeBy, Cond.instanceMethod yX7_fleeBy, Cond.selects RX7 yX7_fleeBy yX7_fleeBy, Cond.code yX7_fleeBy cX7_fleeBy 5 (some .int), Cond.fieldLink RX7 144 "TownBandModel" "robberMany" "I", Cond.methodLink RX7 199 yX7_bitsOf, Cond.static yX7_bitsOf, Cond.code yX7_bitsOf cX7_bitsOf 3 (some .int), Cond.methodLink RX7 243 yX7_placeBy, Cond.instanceMethod yX7_placeBy, Cond.selects RX7 yX7_placeBy yX7_placeBy, Cond.code yX7_placeBy cX7_placeBy 2 (some .int)]
def wsX7_loud : List Cond := .code yX7_loud cX7_loud 2 (some .int) :: ((wsX7_loud_r1 ++ (wsX7_loud_r2 ++ wsX7_loud_r3)) ++ wsX70)
def wsX7_towers_r1 : List Cond := [Cond.fieldLink RX7 218 "TownBandModel" "towerMany" "I", Cond.methodLink RX7 240 yX7_allTowers, Cond.instanceMethod yX7_allTowers, Cond.selects RX7 yX7_allTowers yX7_allTowers, Cond.initialized RX7, Cond.code yX7_allTowers cX7_allTowers 7 none, Cond.fieldLink RX7 215 "TownBandModel" "bestMany" "I", Cond.fieldLink RX7 141 "TownBandModel" "beastMany" "I", Cond.fieldLink RX7 225 "TownBandModel" "bestNoise" "I", Cond.fieldLink RX7 228 "TownBandModel" "bestCode" "I", Cond.fieldLink RX7 231 "TownBandModel" "bestSize" "I", Cond.methodLink RX7 211 yX7_copies, Cond.instanceMethod yX7_copies, Cond.selects RX7 yX7_copies yX7_copies, Cond.code yX7_copies cX7_copies 4 none, Cond.fieldLink RX7 7 "TownBandModel" "state" "[I", Cond.methodLink RX7 202 yX7_powerOf, Cond.static yX7_powerOf, Cond.code yX7_powerOf cX7_powerOf 3 (some .int), Cond.methodLink RX7 221 yX7_laysTower, Cond.instanceMethod yX7_laysTower, Cond.selects RX7 yX7_laysTower yX7_laysTower, Cond.code yX7_laysTower cX7_laysTower 6 (some .boolean), Cond.methodLink RX7 208 yX7_rowOf]
def wsX7_towers_r2 : List Cond := [Cond.instanceMethod yX7_rowOf, Cond.selects RX7 yX7_rowOf yX7_rowOf, Cond.code yX7_rowOf cX7_rowOf 6 (some .int), Cond.methodLink RX7 205 yX7_figureOf, Cond.static yX7_figureOf, Cond.code yX7_figureOf cX7_figureOf 3 (some .int), Cond.methodLink RX7 163 yX7_isBeast, Cond.instanceMethod yX7_isBeast, Cond.selects RX7 yX7_isBeast yX7_isBeast, Cond.code yX7_isBeast cX7_isBeast 2 (some .boolean), Cond.methodLink RX7 46 yX7_in, Cond.static yX7_in, Cond.code yX7_in cX7_in 6 (some .boolean), Cond.methodLink RX7 128 yX7_standsOn, Cond.instanceMethod yX7_standsOn, Cond.selects RX7 yX7_standsOn yX7_standsOn, Cond.code yX7_standsOn cX7_standsOn 6 (some .boolean), Cond.methodLink RX7 154 yX7_bearsOn, Cond.instanceMethod yX7_bearsOn, Cond.selects RX7 yX7_bearsOn yX7_bearsOn, Cond.code yX7_bearsOn cX7_bearsOn 3 (some .int), Cond.methodLink RX7 150 yX7_byKind, Cond.static yX7_byKind, Cond.code yX7_byKind cX7_byKind 2 (some .int)]
def wsX7_towers_r3 : List Cond := [Cond.methodLink RX7 193 yX7_noiseBy, Cond.instanceMethod yX7_noiseBy, Cond.selects RX7 yX7_noiseBy yX7_noiseBy, Cond.code yX7_noiseBy cX7_noiseBy 4 (some .int), Cond.methodLink RX7 196 yX7_fleeBy, Cond.instanceMethod yX7_fleeBy, Cond.selects RX7 yX7_fleeBy yX7_fleeBy, Cond.code yX7_fleeBy cX7_fleeBy 5 (some .int), Cond.fieldLink RX7 144 "TownBandModel" "robberMany" "I", Cond.methodLink RX7 199 yX7_bitsOf, Cond.static yX7_bitsOf, Cond.code yX7_bitsOf cX7_bitsOf 3 (some .int)]
def wsX7_towers : List Cond := .code yX7_towers cX7_towers 1 (some .int) :: ((wsX7_towers_r1 ++ (wsX7_towers_r2 ++ wsX7_towers_r3)) ++ wsX70)
def wsX7_hurtBy : List Cond := .code yX7_hurtBy cX7_hurtBy 3 (some .int) :: ([.fieldLink RX7 246 "TownBandModel" "metMany" "I", .fieldLink RX7 141 "TownBandModel" "beastMany" "I", .fieldLink RX7 7 "TownBandModel" "state" "[I", .methodLink RX7 157 yX7_bedBeast, .instanceMethod yX7_bedBeast, .selects RX7 yX7_bedBeast yX7_bedBeast, .initialized RX7, .code yX7_bedBeast cX7_bedBeast 2 (some .int), .methodLink RX7 205 yX7_figureOf, .static yX7_figureOf, .code yX7_figureOf cX7_figureOf 3 (some .int), .methodLink RX7 202 yX7_powerOf, .static yX7_powerOf, .code yX7_powerOf cX7_powerOf 3 (some .int), .methodLink RX7 166 yX7_hurts, .instanceMethod yX7_hurts, .selects RX7 yX7_hurts yX7_hurts, .code yX7_hurts cX7_hurts 2 (some .int), .methodLink RX7 150 yX7_byKind, .static yX7_byKind, .code yX7_byKind cX7_byKind 2 (some .int)] ++ wsX70)
def wsX7_tale_r1 : List Cond := [Cond.fieldLink RX7 246 "TownBandModel" "metMany" "I", Cond.methodLink RX7 249 yX7_hurtBy, Cond.instanceMethod yX7_hurtBy, Cond.selects RX7 yX7_hurtBy yX7_hurtBy, Cond.initialized RX7, Cond.code yX7_hurtBy cX7_hurtBy 3 (some .int), Cond.fieldLink RX7 141 "TownBandModel" "beastMany" "I", Cond.fieldLink RX7 7 "TownBandModel" "state" "[I", Cond.methodLink RX7 157 yX7_bedBeast, Cond.instanceMethod yX7_bedBeast, Cond.selects RX7 yX7_bedBeast yX7_bedBeast, Cond.code yX7_bedBeast cX7_bedBeast 2 (some .int), Cond.methodLink RX7 205 yX7_figureOf, Cond.static yX7_figureOf, Cond.code yX7_figureOf cX7_figureOf 3 (some .int), Cond.methodLink RX7 202 yX7_powerOf, Cond.static yX7_powerOf, Cond.code yX7_powerOf cX7_powerOf 3 (some .int), Cond.methodLink RX7 166 yX7_hurts, Cond.instanceMethod yX7_hurts, Cond.selects RX7 yX7_hurts yX7_hurts, Cond.code yX7_hurts cX7_hurts 2 (some .int), Cond.methodLink RX7 150 yX7_byKind, Cond.static yX7_byKind]
def wsX7_tale_r2 : List Cond := [Cond.code yX7_byKind cX7_byKind 2 (some .int)]
def wsX7_tale : List Cond := .code yX7_tale cX7_tale 3 (some .int) :: ((wsX7_tale_r1 ++ wsX7_tale_r2) ++ wsX70)
def wsX7_isOrder : List Cond := .code yX7_isOrder cX7_isOrder 2 (some .boolean) :: ([.fieldLink RX7 141 "TownBandModel" "beastMany" "I", .methodLink RX7 208 yX7_rowOf, .instanceMethod yX7_rowOf, .selects RX7 yX7_rowOf yX7_rowOf, .initialized RX7, .code yX7_rowOf cX7_rowOf 6 (some .int), .methodLink RX7 205 yX7_figureOf, .static yX7_figureOf, .code yX7_figureOf cX7_figureOf 3 (some .int), .methodLink RX7 202 yX7_powerOf, .static yX7_powerOf, .code yX7_powerOf cX7_powerOf 3 (some .int), .methodLink RX7 163 yX7_isBeast, .instanceMethod yX7_isBeast, .selects RX7 yX7_isBeast yX7_isBeast, .code yX7_isBeast cX7_isBeast 2 (some .boolean), .methodLink RX7 46 yX7_in, .static yX7_in, .code yX7_in cX7_in 6 (some .boolean)] ++ wsX70)
def wsX7_beds_r1 : List Cond := [Cond.constantLong RX7 236 (10), Cond.fieldLink RX7 141 "TownBandModel" "beastMany" "I", Cond.methodLink RX7 46 yX7_in, Cond.static yX7_in, Cond.initialized RX7, Cond.code yX7_in cX7_in 6 (some .boolean), Cond.methodLink RX7 202 yX7_powerOf, Cond.static yX7_powerOf, Cond.code yX7_powerOf cX7_powerOf 3 (some .int), Cond.methodLink RX7 252 yX7_isOrder, Cond.instanceMethod yX7_isOrder, Cond.selects RX7 yX7_isOrder yX7_isOrder, Cond.code yX7_isOrder cX7_isOrder 2 (some .boolean), Cond.methodLink RX7 208 yX7_rowOf, Cond.instanceMethod yX7_rowOf, Cond.selects RX7 yX7_rowOf yX7_rowOf, Cond.code yX7_rowOf cX7_rowOf 6 (some .int), Cond.methodLink RX7 205 yX7_figureOf, Cond.static yX7_figureOf, Cond.code yX7_figureOf cX7_figureOf 3 (some .int), Cond.methodLink RX7 163 yX7_isBeast, Cond.instanceMethod yX7_isBeast, Cond.selects RX7 yX7_isBeast yX7_isBeast, Cond.code yX7_isBeast cX7_isBeast 2 (some .boolean)]
def wsX7_beds_r2 : List Cond := [Cond.methodLink RX7 249 yX7_hurtBy, Cond.instanceMethod yX7_hurtBy, Cond.selects RX7 yX7_hurtBy yX7_hurtBy, Cond.code yX7_hurtBy cX7_hurtBy 3 (some .int), Cond.fieldLink RX7 246 "TownBandModel" "metMany" "I", Cond.fieldLink RX7 7 "TownBandModel" "state" "[I", Cond.methodLink RX7 157 yX7_bedBeast, Cond.instanceMethod yX7_bedBeast, Cond.selects RX7 yX7_bedBeast yX7_bedBeast, Cond.code yX7_bedBeast cX7_bedBeast 2 (some .int), Cond.methodLink RX7 166 yX7_hurts, Cond.instanceMethod yX7_hurts, Cond.selects RX7 yX7_hurts yX7_hurts, Cond.code yX7_hurts cX7_hurts 2 (some .int), Cond.methodLink RX7 150 yX7_byKind, Cond.static yX7_byKind, Cond.code yX7_byKind cX7_byKind 2 (some .int)]
def wsX7_beds : List Cond := .code yX7_beds cX7_beds 6 (some .int) :: ((wsX7_beds_r1 ++ wsX7_beds_r2) ++ wsX70)
def wsX7_brave : List Cond := .code yX7_brave cX7_brave 3 (some .int) :: ([.fieldLink RX7 141 "TownBandModel" "beastMany" "I", .methodLink RX7 157 yX7_bedBeast, .instanceMethod yX7_bedBeast, .selects RX7 yX7_bedBeast yX7_bedBeast, .initialized RX7, .code yX7_bedBeast cX7_bedBeast 2 (some .int), .fieldLink RX7 7 "TownBandModel" "state" "[I", .methodLink RX7 166 yX7_hurts, .instanceMethod yX7_hurts, .selects RX7 yX7_hurts yX7_hurts, .code yX7_hurts cX7_hurts 2 (some .int), .methodLink RX7 150 yX7_byKind, .static yX7_byKind, .code yX7_byKind cX7_byKind 2 (some .int)] ++ wsX70)
def wsX7_valueOf_r1 : List Cond := [Cond.fieldLink RX7 215 "TownBandModel" "bestMany" "I", Cond.methodLink RX7 240 yX7_allTowers, Cond.instanceMethod yX7_allTowers, Cond.selects RX7 yX7_allTowers yX7_allTowers, Cond.initialized RX7, Cond.code yX7_allTowers cX7_allTowers 7 none, Cond.fieldLink RX7 218 "TownBandModel" "towerMany" "I", Cond.fieldLink RX7 141 "TownBandModel" "beastMany" "I", Cond.fieldLink RX7 225 "TownBandModel" "bestNoise" "I", Cond.fieldLink RX7 228 "TownBandModel" "bestCode" "I", Cond.fieldLink RX7 231 "TownBandModel" "bestSize" "I", Cond.methodLink RX7 211 yX7_copies, Cond.instanceMethod yX7_copies, Cond.selects RX7 yX7_copies yX7_copies, Cond.code yX7_copies cX7_copies 4 none, Cond.fieldLink RX7 7 "TownBandModel" "state" "[I", Cond.methodLink RX7 202 yX7_powerOf, Cond.static yX7_powerOf, Cond.code yX7_powerOf cX7_powerOf 3 (some .int), Cond.methodLink RX7 221 yX7_laysTower, Cond.instanceMethod yX7_laysTower, Cond.selects RX7 yX7_laysTower yX7_laysTower, Cond.code yX7_laysTower cX7_laysTower 6 (some .boolean), Cond.methodLink RX7 208 yX7_rowOf]
def wsX7_valueOf_r2 : List Cond := [Cond.instanceMethod yX7_rowOf, Cond.selects RX7 yX7_rowOf yX7_rowOf, Cond.code yX7_rowOf cX7_rowOf 6 (some .int), Cond.methodLink RX7 205 yX7_figureOf, Cond.static yX7_figureOf, Cond.code yX7_figureOf cX7_figureOf 3 (some .int), Cond.methodLink RX7 163 yX7_isBeast, Cond.instanceMethod yX7_isBeast, Cond.selects RX7 yX7_isBeast yX7_isBeast, Cond.code yX7_isBeast cX7_isBeast 2 (some .boolean), Cond.methodLink RX7 46 yX7_in, Cond.static yX7_in, Cond.code yX7_in cX7_in 6 (some .boolean), Cond.methodLink RX7 128 yX7_standsOn, Cond.instanceMethod yX7_standsOn, Cond.selects RX7 yX7_standsOn yX7_standsOn, Cond.code yX7_standsOn cX7_standsOn 6 (some .boolean), Cond.methodLink RX7 154 yX7_bearsOn, Cond.instanceMethod yX7_bearsOn, Cond.selects RX7 yX7_bearsOn yX7_bearsOn, Cond.code yX7_bearsOn cX7_bearsOn 3 (some .int), Cond.methodLink RX7 150 yX7_byKind, Cond.static yX7_byKind, Cond.code yX7_byKind cX7_byKind 2 (some .int)]
def wsX7_valueOf_r3 : List Cond := [Cond.methodLink RX7 193 yX7_noiseBy, Cond.instanceMethod yX7_noiseBy, Cond.selects RX7 yX7_noiseBy yX7_noiseBy, Cond.code yX7_noiseBy cX7_noiseBy 4 (some .int), Cond.methodLink RX7 196 yX7_fleeBy, Cond.instanceMethod yX7_fleeBy, Cond.selects RX7 yX7_fleeBy yX7_fleeBy, Cond.code yX7_fleeBy cX7_fleeBy 5 (some .int), Cond.fieldLink RX7 144 "TownBandModel" "robberMany" "I", Cond.methodLink RX7 199 yX7_bitsOf, Cond.static yX7_bitsOf, Cond.code yX7_bitsOf cX7_bitsOf 3 (some .int)]
def wsX7_valueOf : List Cond := .code yX7_valueOf cX7_valueOf 2 (some .int) :: ((wsX7_valueOf_r1 ++ (wsX7_valueOf_r2 ++ wsX7_valueOf_r3)) ++ wsX70)
def wsX7_value_r1 : List Cond := [Cond.fieldLink RX7 141 "TownBandModel" "beastMany" "I", Cond.methodLink RX7 46 yX7_in, Cond.static yX7_in, Cond.initialized RX7, Cond.code yX7_in cX7_in 6 (some .boolean), Cond.methodLink RX7 255 yX7_valueOf, Cond.instanceMethod yX7_valueOf, Cond.selects RX7 yX7_valueOf yX7_valueOf, Cond.code yX7_valueOf cX7_valueOf 2 (some .int), Cond.fieldLink RX7 215 "TownBandModel" "bestMany" "I", Cond.methodLink RX7 240 yX7_allTowers, Cond.instanceMethod yX7_allTowers, Cond.selects RX7 yX7_allTowers yX7_allTowers, Cond.code yX7_allTowers cX7_allTowers 7 none, Cond.fieldLink RX7 218 "TownBandModel" "towerMany" "I", Cond.fieldLink RX7 225 "TownBandModel" "bestNoise" "I", Cond.fieldLink RX7 228 "TownBandModel" "bestCode" "I", Cond.fieldLink RX7 231 "TownBandModel" "bestSize" "I", Cond.methodLink RX7 211 yX7_copies, Cond.instanceMethod yX7_copies, Cond.selects RX7 yX7_copies yX7_copies, Cond.code yX7_copies cX7_copies 4 none, Cond.fieldLink RX7 7 "TownBandModel" "state" "[I", Cond.methodLink RX7 202 yX7_powerOf]
def wsX7_value_r2 : List Cond := [Cond.static yX7_powerOf, Cond.code yX7_powerOf cX7_powerOf 3 (some .int), Cond.methodLink RX7 221 yX7_laysTower, Cond.instanceMethod yX7_laysTower, Cond.selects RX7 yX7_laysTower yX7_laysTower, Cond.code yX7_laysTower cX7_laysTower 6 (some .boolean), Cond.methodLink RX7 208 yX7_rowOf, Cond.instanceMethod yX7_rowOf, Cond.selects RX7 yX7_rowOf yX7_rowOf, Cond.code yX7_rowOf cX7_rowOf 6 (some .int), Cond.methodLink RX7 205 yX7_figureOf, Cond.static yX7_figureOf, Cond.code yX7_figureOf cX7_figureOf 3 (some .int), Cond.methodLink RX7 163 yX7_isBeast, Cond.instanceMethod yX7_isBeast, Cond.selects RX7 yX7_isBeast yX7_isBeast, Cond.code yX7_isBeast cX7_isBeast 2 (some .boolean), Cond.methodLink RX7 128 yX7_standsOn, Cond.instanceMethod yX7_standsOn, Cond.selects RX7 yX7_standsOn yX7_standsOn, Cond.code yX7_standsOn cX7_standsOn 6 (some .boolean), Cond.methodLink RX7 154 yX7_bearsOn, Cond.instanceMethod yX7_bearsOn, Cond.selects RX7 yX7_bearsOn yX7_bearsOn]
def wsX7_value_r3 : List Cond := [Cond.code yX7_bearsOn cX7_bearsOn 3 (some .int), Cond.methodLink RX7 150 yX7_byKind, Cond.static yX7_byKind, Cond.code yX7_byKind cX7_byKind 2 (some .int), Cond.methodLink RX7 193 yX7_noiseBy, Cond.instanceMethod yX7_noiseBy, Cond.selects RX7 yX7_noiseBy yX7_noiseBy, Cond.code yX7_noiseBy cX7_noiseBy 4 (some .int), Cond.methodLink RX7 196 yX7_fleeBy, Cond.instanceMethod yX7_fleeBy, Cond.selects RX7 yX7_fleeBy yX7_fleeBy, Cond.code yX7_fleeBy cX7_fleeBy 5 (some .int), Cond.fieldLink RX7 144 "TownBandModel" "robberMany" "I", Cond.methodLink RX7 199 yX7_bitsOf, Cond.static yX7_bitsOf, Cond.code yX7_bitsOf cX7_bitsOf 3 (some .int)]
def wsX7_value : List Cond := .code yX7_value cX7_value 2 (some .int) :: ((wsX7_value_r1 ++ (wsX7_value_r2 ++ wsX7_value_r3)) ++ wsX70)
def wsX7_lowest : List Cond := .code yX7_lowest cX7_lowest 11 (some .long) :: ([])
def wsX7_ordersOf : List Cond := .code yX7_ordersOf cX7_ordersOf 3 (some .int) :: ([])
def wsX7_share_r1 : List Cond := [Cond.constantLong RX7 258 (-1), Cond.fieldLink RX7 141 "TownBandModel" "beastMany" "I", Cond.methodLink RX7 163 yX7_isBeast, Cond.instanceMethod yX7_isBeast, Cond.selects RX7 yX7_isBeast yX7_isBeast, Cond.initialized RX7, Cond.code yX7_isBeast cX7_isBeast 2 (some .boolean), Cond.methodLink RX7 46 yX7_in, Cond.static yX7_in, Cond.code yX7_in cX7_in 6 (some .boolean), Cond.methodLink RX7 199 yX7_bitsOf, Cond.static yX7_bitsOf, Cond.code yX7_bitsOf cX7_bitsOf 3 (some .int), Cond.methodLink RX7 260 yX7_ordersOf, Cond.static yX7_ordersOf, Cond.code yX7_ordersOf cX7_ordersOf 3 (some .int), Cond.methodLink RX7 255 yX7_valueOf, Cond.instanceMethod yX7_valueOf, Cond.selects RX7 yX7_valueOf yX7_valueOf, Cond.code yX7_valueOf cX7_valueOf 2 (some .int), Cond.fieldLink RX7 215 "TownBandModel" "bestMany" "I", Cond.methodLink RX7 240 yX7_allTowers, Cond.instanceMethod yX7_allTowers, Cond.selects RX7 yX7_allTowers yX7_allTowers]
def wsX7_share_r2 : List Cond := [Cond.code yX7_allTowers cX7_allTowers 7 none, Cond.fieldLink RX7 218 "TownBandModel" "towerMany" "I", Cond.fieldLink RX7 225 "TownBandModel" "bestNoise" "I", Cond.fieldLink RX7 228 "TownBandModel" "bestCode" "I", Cond.fieldLink RX7 231 "TownBandModel" "bestSize" "I", Cond.methodLink RX7 211 yX7_copies, Cond.instanceMethod yX7_copies, Cond.selects RX7 yX7_copies yX7_copies, Cond.code yX7_copies cX7_copies 4 none, Cond.fieldLink RX7 7 "TownBandModel" "state" "[I", Cond.methodLink RX7 202 yX7_powerOf, Cond.static yX7_powerOf, Cond.code yX7_powerOf cX7_powerOf 3 (some .int), Cond.methodLink RX7 221 yX7_laysTower, Cond.instanceMethod yX7_laysTower, Cond.selects RX7 yX7_laysTower yX7_laysTower, Cond.code yX7_laysTower cX7_laysTower 6 (some .boolean), Cond.methodLink RX7 208 yX7_rowOf, Cond.instanceMethod yX7_rowOf, Cond.selects RX7 yX7_rowOf yX7_rowOf, Cond.code yX7_rowOf cX7_rowOf 6 (some .int), Cond.methodLink RX7 205 yX7_figureOf, Cond.static yX7_figureOf, Cond.code yX7_figureOf cX7_figureOf 3 (some .int)]
def wsX7_share_r3 : List Cond := [Cond.methodLink RX7 128 yX7_standsOn, Cond.instanceMethod yX7_standsOn, Cond.selects RX7 yX7_standsOn yX7_standsOn, Cond.code yX7_standsOn cX7_standsOn 6 (some .boolean), Cond.methodLink RX7 154 yX7_bearsOn, Cond.instanceMethod yX7_bearsOn, Cond.selects RX7 yX7_bearsOn yX7_bearsOn, Cond.code yX7_bearsOn cX7_bearsOn 3 (some .int), Cond.methodLink RX7 150 yX7_byKind, Cond.static yX7_byKind, Cond.code yX7_byKind cX7_byKind 2 (some .int), Cond.methodLink RX7 193 yX7_noiseBy, Cond.instanceMethod yX7_noiseBy, Cond.selects RX7 yX7_noiseBy yX7_noiseBy, Cond.code yX7_noiseBy cX7_noiseBy 4 (some .int), Cond.methodLink RX7 196 yX7_fleeBy, Cond.instanceMethod yX7_fleeBy, Cond.selects RX7 yX7_fleeBy yX7_fleeBy, Cond.code yX7_fleeBy cX7_fleeBy 5 (some .int), Cond.fieldLink RX7 144 "TownBandModel" "robberMany" "I", Cond.methodLink RX7 263 yX7_lowest, Cond.static yX7_lowest, Cond.code yX7_lowest cX7_lowest 11 (some .long)]
def wsX7_share : List Cond := .code yX7_share cX7_share 8 (some .long) :: ((wsX7_share_r1 ++ (wsX7_share_r2 ++ wsX7_share_r3)) ++ wsX70)
def wsX7_byHoarse : List Cond := .code yX7_byHoarse cX7_byHoarse 13 (some .long) :: ([.fieldLink RX7 7 "TownBandModel" "state" "[I", .constantLong RX7 236 (10), .fieldLink RX7 144 "TownBandModel" "robberMany" "I", .methodLink RX7 193 yX7_noiseBy, .instanceMethod yX7_noiseBy, .selects RX7 yX7_noiseBy yX7_noiseBy, .initialized RX7, .code yX7_noiseBy cX7_noiseBy 4 (some .int), .methodLink RX7 196 yX7_fleeBy, .instanceMethod yX7_fleeBy, .selects RX7 yX7_fleeBy yX7_fleeBy, .code yX7_fleeBy cX7_fleeBy 5 (some .int), .methodLink RX7 199 yX7_bitsOf, .static yX7_bitsOf, .code yX7_bitsOf cX7_bitsOf 3 (some .int), .methodLink RX7 263 yX7_lowest, .static yX7_lowest, .code yX7_lowest cX7_lowest 11 (some .long)] ++ wsX70)
def wsX7_mean_r1 : List Cond := [Cond.constantLong RX7 236 (10), Cond.constantLong RX7 258 (-1), Cond.methodLink RX7 46 yX7_in, Cond.static yX7_in, Cond.initialized RX7, Cond.code yX7_in cX7_in 6 (some .boolean), Cond.methodLink RX7 267 yX7_byHoarse, Cond.instanceMethod yX7_byHoarse, Cond.selects RX7 yX7_byHoarse yX7_byHoarse, Cond.code yX7_byHoarse cX7_byHoarse 13 (some .long), Cond.fieldLink RX7 7 "TownBandModel" "state" "[I", Cond.fieldLink RX7 144 "TownBandModel" "robberMany" "I", Cond.methodLink RX7 193 yX7_noiseBy, Cond.instanceMethod yX7_noiseBy, Cond.selects RX7 yX7_noiseBy yX7_noiseBy, Cond.code yX7_noiseBy cX7_noiseBy 4 (some .int), Cond.methodLink RX7 196 yX7_fleeBy, Cond.instanceMethod yX7_fleeBy, Cond.selects RX7 yX7_fleeBy yX7_fleeBy, Cond.code yX7_fleeBy cX7_fleeBy 5 (some .int), Cond.methodLink RX7 199 yX7_bitsOf, Cond.static yX7_bitsOf, Cond.code yX7_bitsOf cX7_bitsOf 3 (some .int), Cond.methodLink RX7 263 yX7_lowest]
def wsX7_mean_r2 : List Cond := [Cond.static yX7_lowest, Cond.code yX7_lowest cX7_lowest 11 (some .long)]
def wsX7_mean : List Cond := .code yX7_mean cX7_mean 3 (some .long) :: ((wsX7_mean_r1 ++ wsX7_mean_r2) ++ wsX70)
def wsX7_luck_r1 : List Cond := [Cond.constantLong RX7 236 (10), Cond.constantLong RX7 258 (-1), Cond.methodLink RX7 46 yX7_in, Cond.static yX7_in, Cond.initialized RX7, Cond.code yX7_in cX7_in 6 (some .boolean), Cond.methodLink RX7 267 yX7_byHoarse, Cond.instanceMethod yX7_byHoarse, Cond.selects RX7 yX7_byHoarse yX7_byHoarse, Cond.code yX7_byHoarse cX7_byHoarse 13 (some .long), Cond.fieldLink RX7 7 "TownBandModel" "state" "[I", Cond.fieldLink RX7 144 "TownBandModel" "robberMany" "I", Cond.methodLink RX7 193 yX7_noiseBy, Cond.instanceMethod yX7_noiseBy, Cond.selects RX7 yX7_noiseBy yX7_noiseBy, Cond.code yX7_noiseBy cX7_noiseBy 4 (some .int), Cond.methodLink RX7 196 yX7_fleeBy, Cond.instanceMethod yX7_fleeBy, Cond.selects RX7 yX7_fleeBy yX7_fleeBy, Cond.code yX7_fleeBy cX7_fleeBy 5 (some .int), Cond.methodLink RX7 199 yX7_bitsOf, Cond.static yX7_bitsOf, Cond.code yX7_bitsOf cX7_bitsOf 3 (some .int), Cond.methodLink RX7 263 yX7_lowest]
def wsX7_luck_r2 : List Cond := [Cond.static yX7_lowest, Cond.code yX7_lowest cX7_lowest 11 (some .long)]
def wsX7_luck : List Cond := .code yX7_luck cX7_luck 3 (some .long) :: ((wsX7_luck_r1 ++ wsX7_luck_r2) ++ wsX70)
def wsX7_see : List Cond := .code yX7_see cX7_see 3 (some .int) :: ([.constantLong RX7 271 (5), .constantLong RX7 186 (99), .fieldLink RX7 147 "TownBandModel" "seenMany" "I", .fieldLink RX7 25 "TownBandModel" "seen" "[I", .methodLink RX7 46 yX7_in, .static yX7_in, .initialized RX7, .code yX7_in cX7_in 6 (some .boolean)] ++ wsX70)
def wsX7_forget : List Cond := .code yX7_forget cX7_forget 3 (some .int) :: ([.fieldLink RX7 147 "TownBandModel" "seenMany" "I", .methodLink RX7 46 yX7_in, .static yX7_in, .initialized RX7, .code yX7_in cX7_in 6 (some .boolean)] ++ wsX70)
def wsX7_hurtBehind : List Cond := .code yX7_hurtBehind cX7_hurtBehind 5 (some .int) :: ([.fieldLink RX7 141 "TownBandModel" "beastMany" "I", .methodLink RX7 205 yX7_figureOf, .static yX7_figureOf, .initialized RX7, .code yX7_figureOf cX7_figureOf 3 (some .int), .methodLink RX7 202 yX7_powerOf, .static yX7_powerOf, .code yX7_powerOf cX7_powerOf 3 (some .int), .methodLink RX7 166 yX7_hurts, .instanceMethod yX7_hurts, .selects RX7 yX7_hurts yX7_hurts, .code yX7_hurts cX7_hurts 2 (some .int), .fieldLink RX7 7 "TownBandModel" "state" "[I", .methodLink RX7 150 yX7_byKind, .static yX7_byKind, .code yX7_byKind cX7_byKind 2 (some .int)] ++ wsX70)
def wsX7_doesFit_r1 : List Cond := [Cond.fieldLink RX7 147 "TownBandModel" "seenMany" "I", Cond.fieldLink RX7 25 "TownBandModel" "seen" "[I", Cond.fieldLink RX7 141 "TownBandModel" "beastMany" "I", Cond.methodLink RX7 252 yX7_isOrder, Cond.instanceMethod yX7_isOrder, Cond.selects RX7 yX7_isOrder yX7_isOrder, Cond.initialized RX7, Cond.code yX7_isOrder cX7_isOrder 2 (some .boolean), Cond.methodLink RX7 208 yX7_rowOf, Cond.instanceMethod yX7_rowOf, Cond.selects RX7 yX7_rowOf yX7_rowOf, Cond.code yX7_rowOf cX7_rowOf 6 (some .int), Cond.methodLink RX7 205 yX7_figureOf, Cond.static yX7_figureOf, Cond.code yX7_figureOf cX7_figureOf 3 (some .int), Cond.methodLink RX7 202 yX7_powerOf, Cond.static yX7_powerOf, Cond.code yX7_powerOf cX7_powerOf 3 (some .int), Cond.methodLink RX7 163 yX7_isBeast, Cond.instanceMethod yX7_isBeast, Cond.selects RX7 yX7_isBeast yX7_isBeast, Cond.code yX7_isBeast cX7_isBeast 2 (some .boolean), Cond.methodLink RX7 46 yX7_in, Cond.static yX7_in]
def wsX7_doesFit_r2 : List Cond := [Cond.code yX7_in cX7_in 6 (some .boolean), Cond.methodLink RX7 273 yX7_hurtBehind, Cond.instanceMethod yX7_hurtBehind, Cond.selects RX7 yX7_hurtBehind yX7_hurtBehind, Cond.code yX7_hurtBehind cX7_hurtBehind 5 (some .int), Cond.methodLink RX7 166 yX7_hurts, Cond.instanceMethod yX7_hurts, Cond.selects RX7 yX7_hurts yX7_hurts, Cond.code yX7_hurts cX7_hurts 2 (some .int), Cond.fieldLink RX7 7 "TownBandModel" "state" "[I", Cond.methodLink RX7 150 yX7_byKind, Cond.static yX7_byKind, Cond.code yX7_byKind cX7_byKind 2 (some .int)]
def wsX7_doesFit : List Cond := .code yX7_doesFit cX7_doesFit 4 (some .boolean) :: ((wsX7_doesFit_r1 ++ wsX7_doesFit_r2) ++ wsX70)
def wsX7_fits_r1 : List Cond := [Cond.constantLong RX7 236 (10), Cond.fieldLink RX7 141 "TownBandModel" "beastMany" "I", Cond.constantLong RX7 276 (20), Cond.constantLong RX7 238 (14), Cond.methodLink RX7 46 yX7_in, Cond.static yX7_in, Cond.initialized RX7, Cond.code yX7_in cX7_in 6 (some .boolean), Cond.methodLink RX7 202 yX7_powerOf, Cond.static yX7_powerOf, Cond.code yX7_powerOf cX7_powerOf 3 (some .int), Cond.methodLink RX7 278 yX7_doesFit, Cond.instanceMethod yX7_doesFit, Cond.selects RX7 yX7_doesFit yX7_doesFit, Cond.code yX7_doesFit cX7_doesFit 4 (some .boolean), Cond.fieldLink RX7 147 "TownBandModel" "seenMany" "I", Cond.fieldLink RX7 25 "TownBandModel" "seen" "[I", Cond.methodLink RX7 252 yX7_isOrder, Cond.instanceMethod yX7_isOrder, Cond.selects RX7 yX7_isOrder yX7_isOrder, Cond.code yX7_isOrder cX7_isOrder 2 (some .boolean), Cond.methodLink RX7 208 yX7_rowOf, Cond.instanceMethod yX7_rowOf, Cond.selects RX7 yX7_rowOf yX7_rowOf]
def wsX7_fits_r2 : List Cond := [Cond.code yX7_rowOf cX7_rowOf 6 (some .int), Cond.methodLink RX7 205 yX7_figureOf, Cond.static yX7_figureOf, Cond.code yX7_figureOf cX7_figureOf 3 (some .int), Cond.methodLink RX7 163 yX7_isBeast, Cond.instanceMethod yX7_isBeast, Cond.selects RX7 yX7_isBeast yX7_isBeast, Cond.code yX7_isBeast cX7_isBeast 2 (some .boolean), Cond.methodLink RX7 273 yX7_hurtBehind, Cond.instanceMethod yX7_hurtBehind, Cond.selects RX7 yX7_hurtBehind yX7_hurtBehind, Cond.code yX7_hurtBehind cX7_hurtBehind 5 (some .int), Cond.methodLink RX7 166 yX7_hurts, Cond.instanceMethod yX7_hurts, Cond.selects RX7 yX7_hurts yX7_hurts, Cond.code yX7_hurts cX7_hurts 2 (some .int), Cond.fieldLink RX7 7 "TownBandModel" "state" "[I", Cond.methodLink RX7 150 yX7_byKind, Cond.static yX7_byKind, Cond.code yX7_byKind cX7_byKind 2 (some .int)]
def wsX7_fits : List Cond := .code yX7_fits cX7_fits 6 (some .int) :: ((wsX7_fits_r1 ++ wsX7_fits_r2) ++ wsX70)
def wsX7_ask_r1 : List Cond := [Cond.fieldLink RX7 141 "TownBandModel" "beastMany" "I", Cond.fieldLink RX7 28 "TownBandModel" "hurtMany" "[I", Cond.methodLink RX7 46 yX7_in, Cond.static yX7_in, Cond.initialized RX7, Cond.code yX7_in cX7_in 6 (some .boolean), Cond.methodLink RX7 281 yX7_fits, Cond.instanceMethod yX7_fits, Cond.selects RX7 yX7_fits yX7_fits, Cond.code yX7_fits cX7_fits 6 (some .int), Cond.constantLong RX7 236 (10), Cond.constantLong RX7 276 (20), Cond.constantLong RX7 238 (14), Cond.methodLink RX7 202 yX7_powerOf, Cond.static yX7_powerOf, Cond.code yX7_powerOf cX7_powerOf 3 (some .int), Cond.methodLink RX7 278 yX7_doesFit, Cond.instanceMethod yX7_doesFit, Cond.selects RX7 yX7_doesFit yX7_doesFit, Cond.code yX7_doesFit cX7_doesFit 4 (some .boolean), Cond.fieldLink RX7 147 "TownBandModel" "seenMany" "I", Cond.fieldLink RX7 25 "TownBandModel" "seen" "[I", Cond.methodLink RX7 252 yX7_isOrder, Cond.instanceMethod yX7_isOrder]
def wsX7_ask_r2 : List Cond := [Cond.selects RX7 yX7_isOrder yX7_isOrder, Cond.code yX7_isOrder cX7_isOrder 2 (some .boolean), Cond.methodLink RX7 208 yX7_rowOf, Cond.instanceMethod yX7_rowOf, Cond.selects RX7 yX7_rowOf yX7_rowOf, Cond.code yX7_rowOf cX7_rowOf 6 (some .int), Cond.methodLink RX7 205 yX7_figureOf, Cond.static yX7_figureOf, Cond.code yX7_figureOf cX7_figureOf 3 (some .int), Cond.methodLink RX7 163 yX7_isBeast, Cond.instanceMethod yX7_isBeast, Cond.selects RX7 yX7_isBeast yX7_isBeast, Cond.code yX7_isBeast cX7_isBeast 2 (some .boolean), Cond.methodLink RX7 273 yX7_hurtBehind, Cond.instanceMethod yX7_hurtBehind, Cond.selects RX7 yX7_hurtBehind yX7_hurtBehind, Cond.code yX7_hurtBehind cX7_hurtBehind 5 (some .int), Cond.methodLink RX7 166 yX7_hurts, Cond.instanceMethod yX7_hurts, Cond.selects RX7 yX7_hurts yX7_hurts, Cond.code yX7_hurts cX7_hurts 2 (some .int), Cond.fieldLink RX7 7 "TownBandModel" "state" "[I", Cond.methodLink RX7 150 yX7_byKind, Cond.static yX7_byKind]
def wsX7_ask_r3 : List Cond := [Cond.code yX7_byKind cX7_byKind 2 (some .int)]
def wsX7_ask : List Cond := .code yX7_ask cX7_ask 8 (some .int) :: ((wsX7_ask_r1 ++ (wsX7_ask_r2 ++ wsX7_ask_r3)) ++ wsX70)
def wsX7_draws : List Cond := .code yX7_draws cX7_draws 2 (some .int) :: ([.fieldLink RX7 284 "TownBandModel" "drawn" "I", .constant RX7 287 (1103515245)] ++ wsX70)
def wsX7_drift_r1 : List Cond := [Cond.constantLong RX7 288 (60), Cond.fieldLink RX7 141 "TownBandModel" "beastMany" "I", Cond.fieldLink RX7 284 "TownBandModel" "drawn" "I", Cond.fieldLink RX7 7 "TownBandModel" "state" "[I", Cond.methodLink RX7 46 yX7_in, Cond.static yX7_in, Cond.initialized RX7, Cond.code yX7_in cX7_in 6 (some .boolean), Cond.methodLink RX7 211 yX7_copies, Cond.instanceMethod yX7_copies, Cond.selects RX7 yX7_copies yX7_copies, Cond.code yX7_copies cX7_copies 4 none, Cond.methodLink RX7 290 yX7_draws, Cond.instanceMethod yX7_draws, Cond.selects RX7 yX7_draws yX7_draws, Cond.code yX7_draws cX7_draws 2 (some .int), Cond.constant RX7 287 (1103515245), Cond.methodLink RX7 193 yX7_noiseBy, Cond.instanceMethod yX7_noiseBy, Cond.selects RX7 yX7_noiseBy yX7_noiseBy, Cond.code yX7_noiseBy cX7_noiseBy 4 (some .int), Cond.methodLink RX7 196 yX7_fleeBy, Cond.instanceMethod yX7_fleeBy, Cond.selects RX7 yX7_fleeBy yX7_fleeBy]
def wsX7_drift_r2 : List Cond := [Cond.code yX7_fleeBy cX7_fleeBy 5 (some .int), Cond.fieldLink RX7 144 "TownBandModel" "robberMany" "I", Cond.methodLink RX7 199 yX7_bitsOf, Cond.static yX7_bitsOf, Cond.code yX7_bitsOf cX7_bitsOf 3 (some .int)]
def wsX7_drift : List Cond := .code yX7_drift cX7_drift 7 (some .int) :: ((wsX7_drift_r1 ++ wsX7_drift_r2) ++ wsX70)
def wsX7_keep : List Cond := .code yX7_keep cX7_keep 3 (some .int) :: ([.fieldLink RX7 31 "TownBandModel" "isKept" "[Z", .methodLink RX7 46 yX7_in, .static yX7_in, .initialized RX7, .code yX7_in cX7_in 6 (some .boolean), .methodLink RX7 211 yX7_copies, .instanceMethod yX7_copies, .selects RX7 yX7_copies yX7_copies, .code yX7_copies cX7_copies 4 none, .fieldLink RX7 7 "TownBandModel" "state" "[I"] ++ wsX70)
def wsX7_back : List Cond := .code yX7_back cX7_back 2 (some .int) :: ([.fieldLink RX7 31 "TownBandModel" "isKept" "[Z", .fieldLink RX7 7 "TownBandModel" "state" "[I", .methodLink RX7 46 yX7_in, .static yX7_in, .initialized RX7, .code yX7_in cX7_in 6 (some .boolean), .methodLink RX7 211 yX7_copies, .instanceMethod yX7_copies, .selects RX7 yX7_copies yX7_copies, .code yX7_copies cX7_copies 4 none] ++ wsX70)
def wsX7_sheet : List Cond := .code yX7_sheet cX7_sheet 5 (some .int) :: ([.constantLong RX7 178 (3), .constantLong RX7 234 (2), .fieldLink RX7 35 "TownBandModel" "lanes" "[I", .fieldLink RX7 38 "TownBandModel" "lengths" "[I", .fieldLink RX7 41 "TownBandModel" "cells" "[I", .methodLink RX7 46 yX7_in, .static yX7_in, .initialized RX7, .code yX7_in cX7_in 6 (some .boolean)] ++ wsX70)
def wsX7_lay : List Cond := .code yX7_lay cX7_lay 4 (some .int) :: ([.constantLong RX7 178 (3), .fieldLink RX7 35 "TownBandModel" "lanes" "[I", .fieldLink RX7 38 "TownBandModel" "lengths" "[I", .fieldLink RX7 41 "TownBandModel" "cells" "[I", .methodLink RX7 46 yX7_in, .static yX7_in, .initialized RX7, .code yX7_in cX7_in 6 (some .boolean)] ++ wsX70)
def wsX7_read_r1 : List Cond := [Cond.constantLong RX7 178 (3), Cond.constantLong RX7 234 (2), Cond.constantLong RX7 276 (20), Cond.fieldLink RX7 35 "TownBandModel" "lanes" "[I", Cond.fieldLink RX7 38 "TownBandModel" "lengths" "[I", Cond.fieldLink RX7 41 "TownBandModel" "cells" "[I", Cond.fieldLink RX7 293 "TownBandModel" "torn" "I", Cond.methodLink RX7 46 yX7_in, Cond.static yX7_in, Cond.initialized RX7, Cond.code yX7_in cX7_in 6 (some .boolean), Cond.methodLink RX7 211 yX7_copies, Cond.instanceMethod yX7_copies, Cond.selects RX7 yX7_copies yX7_copies, Cond.code yX7_copies cX7_copies 4 none, Cond.fieldLink RX7 7 "TownBandModel" "state" "[I", Cond.methodLink RX7 190 yX7_climbs, Cond.instanceMethod yX7_climbs, Cond.selects RX7 yX7_climbs yX7_climbs, Cond.code yX7_climbs cX7_climbs 2 (some .int), Cond.methodLink RX7 163 yX7_isBeast, Cond.instanceMethod yX7_isBeast, Cond.selects RX7 yX7_isBeast yX7_isBeast, Cond.code yX7_isBeast cX7_isBeast 2 (some .boolean)]
def wsX7_read_r2 : List Cond := [Cond.fieldLink RX7 141 "TownBandModel" "beastMany" "I", Cond.methodLink RX7 169 yX7_placeOf, Cond.instanceMethod yX7_placeOf, Cond.selects RX7 yX7_placeOf yX7_placeOf, Cond.code yX7_placeOf cX7_placeOf 3 (some .int), Cond.methodLink RX7 128 yX7_standsOn, Cond.instanceMethod yX7_standsOn, Cond.selects RX7 yX7_standsOn yX7_standsOn, Cond.code yX7_standsOn cX7_standsOn 6 (some .boolean), Cond.methodLink RX7 154 yX7_bearsOn, Cond.instanceMethod yX7_bearsOn, Cond.selects RX7 yX7_bearsOn yX7_bearsOn, Cond.code yX7_bearsOn cX7_bearsOn 3 (some .int), Cond.methodLink RX7 150 yX7_byKind, Cond.static yX7_byKind, Cond.code yX7_byKind cX7_byKind 2 (some .int)]
def wsX7_read : List Cond := .code yX7_read cX7_read 8 (some .int) :: ((wsX7_read_r1 ++ wsX7_read_r2) ++ wsX70)
def wsX7_torn : List Cond := .code yX7_torn cX7_torn 1 (some .int) :: ([.fieldLink RX7 293 "TownBandModel" "torn" "I"] ++ wsX70)
def wsX7_count : List Cond := .code yX7_count cX7_count 5 (some .int) :: ([.fieldLink RX7 141 "TownBandModel" "beastMany" "I", .fieldLink RX7 7 "TownBandModel" "state" "[I", .fieldLink RX7 144 "TownBandModel" "robberMany" "I", .fieldLink RX7 147 "TownBandModel" "seenMany" "I", .fieldLink RX7 31 "TownBandModel" "isKept" "[Z", .fieldLink RX7 50 "TownBandModel" "taped" "I", .fieldLink RX7 35 "TownBandModel" "lanes" "[I", .fieldLink RX7 38 "TownBandModel" "lengths" "[I"] ++ wsX70)
def wsJ9_max_7cf53 : List Cond := .code yJ9_max_7cf53 cJ9_max_7cf53 2 (some .int) :: ([])
theorem inJ6 : ∀ w ∈ wsJ60, w ∈ lw_tbl := by decide +kernel
theorem inJ9 : ∀ w ∈ wsJ90, w ∈ lw_tbl := by decide +kernel
theorem inJ0 : ∀ w ∈ wsJ00, w ∈ lw_tbl := by decide +kernel
theorem inJ1 : ∀ w ∈ wsJ10, w ∈ lw_tbl := by decide +kernel
theorem inJ2 : ∀ w ∈ wsJ20, w ∈ lw_tbl := by decide +kernel
theorem inJ10 : ∀ w ∈ wsJ100, w ∈ lw_tbl := by decide +kernel
theorem inJ3 : ∀ w ∈ wsJ30, w ∈ lw_tbl := by decide +kernel
theorem dX0_init_0 : decode cX0_init 0 = .ok (.aload_n 0, 1) := by decide +kernel
theorem dX0_init_1 : decode cX0_init 1 = .ok (.invokespecial 3, 3) := by decide +kernel
theorem dX0_init_4 : decode cX0_init 4 = .ok (.aload_n 0, 1) := by decide +kernel
theorem dX0_init_5 : decode cX0_init 5 = .ok (.iconst 5, 1) := by decide +kernel
theorem dX0_init_6 : decode cX0_init 6 = .ok (.newarray .int, 2) := by decide +kernel
theorem dX0_init_8 : decode cX0_init 8 = .ok (.putfield 9, 3) := by decide +kernel
theorem dX0_init_11 : decode cX0_init 11 = .ok (.aload_n 0, 1) := by decide +kernel
theorem dX0_init_12 : decode cX0_init 12 = .ok (.iconst 5, 1) := by decide +kernel
theorem dX0_init_13 : decode cX0_init 13 = .ok (.newarray .int, 2) := by decide +kernel
theorem dX0_init_15 : decode cX0_init 15 = .ok (.putfield 15, 3) := by decide +kernel
theorem dX0_init_18 : decode cX0_init 18 = .ok (.aload_n 0, 1) := by decide +kernel
theorem dX0_init_19 : decode cX0_init 19 = .ok (.iconst 5, 1) := by decide +kernel
theorem dX0_init_20 : decode cX0_init 20 = .ok (.newarray .int, 2) := by decide +kernel
theorem dX0_init_22 : decode cX0_init 22 = .ok (.putfield 18, 3) := by decide +kernel
theorem dX0_init_25 : decode cX0_init 25 = .ok (.aload_n 0, 1) := by decide +kernel
theorem dX0_init_26 : decode cX0_init 26 = .ok (.iconst 4, 1) := by decide +kernel
theorem dX0_init_27 : decode cX0_init 27 = .ok (.newarray .int, 2) := by decide +kernel
theorem dX0_init_29 : decode cX0_init 29 = .ok (.putfield 21, 3) := by decide +kernel
theorem dX0_init_32 : decode cX0_init 32 = .ok (.aload_n 0, 1) := by decide +kernel
theorem dX0_init_33 : decode cX0_init 33 = .ok (.iconst 5, 1) := by decide +kernel
theorem dX0_init_34 : decode cX0_init 34 = .ok (.newarray .int, 2) := by decide +kernel
theorem dX0_init_36 : decode cX0_init 36 = .ok (.putfield 24, 3) := by decide +kernel
theorem dX0_init_39 : decode cX0_init 39 = .ok (.aload_n 0, 1) := by decide +kernel
theorem dX0_init_40 : decode cX0_init 40 = .ok (.iconst 5, 1) := by decide +kernel
theorem dX0_init_41 : decode cX0_init 41 = .ok (.newarray .int, 2) := by decide +kernel
theorem dX0_init_43 : decode cX0_init 43 = .ok (.putfield 27, 3) := by decide +kernel
theorem dX0_init_46 : decode cX0_init 46 = .ok (.aload_n 0, 1) := by decide +kernel
theorem dX0_init_47 : decode cX0_init 47 = .ok (.iconst 0, 1) := by decide +kernel
theorem dX0_init_48 : decode cX0_init 48 = .ok (.putfield 30, 3) := by decide +kernel
theorem dX0_init_51 : decode cX0_init 51 = .ok (.aload_n 0, 1) := by decide +kernel
theorem dX0_init_52 : decode cX0_init 52 = .ok (.iconst 0, 1) := by decide +kernel
theorem dX0_init_53 : decode cX0_init 53 = .ok (.putfield 34, 3) := by decide +kernel
theorem dX0_init_56 : decode cX0_init 56 = .ok (.aload_n 0, 1) := by decide +kernel
theorem dX0_init_57 : decode cX0_init 57 = .ok (.iconst 0, 1) := by decide +kernel
theorem dX0_init_58 : decode cX0_init 58 = .ok (.putfield 37, 3) := by decide +kernel
theorem dX0_init_61 : decode cX0_init 61 = .ok (.aload_n 0, 1) := by decide +kernel
theorem dX0_init_62 : decode cX0_init 62 = .ok (.iconst 5, 1) := by decide +kernel
theorem dX0_init_63 : decode cX0_init 63 = .ok (.putfield 40, 3) := by decide +kernel
theorem dX0_init_66 : decode cX0_init 66 = .ok (.return_, 1) := by decide +kernel
theorem dX0_clear_0 : decode cX0_clear 0 = .ok (.aload_n 0, 1) := by decide +kernel
theorem dX0_clear_1 : decode cX0_clear 1 = .ok (.iconst 0, 1) := by decide +kernel
theorem dX0_clear_2 : decode cX0_clear 2 = .ok (.putfield 30, 3) := by decide +kernel
theorem dX0_clear_5 : decode cX0_clear 5 = .ok (.aload_n 0, 1) := by decide +kernel
theorem dX0_clear_6 : decode cX0_clear 6 = .ok (.iconst 0, 1) := by decide +kernel
theorem dX0_clear_7 : decode cX0_clear 7 = .ok (.putfield 34, 3) := by decide +kernel
theorem dX0_clear_10 : decode cX0_clear 10 = .ok (.aload_n 0, 1) := by decide +kernel
theorem dX0_clear_11 : decode cX0_clear 11 = .ok (.iconst 0, 1) := by decide +kernel
theorem dX0_clear_12 : decode cX0_clear 12 = .ok (.putfield 37, 3) := by decide +kernel
theorem dX0_clear_15 : decode cX0_clear 15 = .ok (.aload_n 0, 1) := by decide +kernel
theorem dX0_clear_16 : decode cX0_clear 16 = .ok (.iconst 5, 1) := by decide +kernel
theorem dX0_clear_17 : decode cX0_clear 17 = .ok (.putfield 40, 3) := by decide +kernel
theorem dX0_clear_20 : decode cX0_clear 20 = .ok (.return_, 1) := by decide +kernel
theorem dX0_copyFrom_0 : decode cX0_copyFrom 0 = .ok (.aload_n 1, 1) := by decide +kernel
theorem dX0_copyFrom_1 : decode cX0_copyFrom 1 = .ok (.getfield 9, 3) := by decide +kernel
theorem dX0_copyFrom_4 : decode cX0_copyFrom 4 = .ok (.iconst 0, 1) := by decide +kernel
theorem dX0_copyFrom_5 : decode cX0_copyFrom 5 = .ok (.aload_n 0, 1) := by decide +kernel
theorem dX0_copyFrom_6 : decode cX0_copyFrom 6 = .ok (.getfield 9, 3) := by decide +kernel
theorem dX0_copyFrom_9 : decode cX0_copyFrom 9 = .ok (.iconst 0, 1) := by decide +kernel
theorem dX0_copyFrom_10 : decode cX0_copyFrom 10 = .ok (.iconst 5, 1) := by decide +kernel
theorem dX0_copyFrom_11 : decode cX0_copyFrom 11 = .ok (.invokestatic 43, 3) := by decide +kernel
theorem dX0_copyFrom_14 : decode cX0_copyFrom 14 = .ok (.aload_n 1, 1) := by decide +kernel
theorem dX0_copyFrom_15 : decode cX0_copyFrom 15 = .ok (.getfield 15, 3) := by decide +kernel
theorem dX0_copyFrom_18 : decode cX0_copyFrom 18 = .ok (.iconst 0, 1) := by decide +kernel
theorem dX0_copyFrom_19 : decode cX0_copyFrom 19 = .ok (.aload_n 0, 1) := by decide +kernel
theorem dX0_copyFrom_20 : decode cX0_copyFrom 20 = .ok (.getfield 15, 3) := by decide +kernel
theorem dX0_copyFrom_23 : decode cX0_copyFrom 23 = .ok (.iconst 0, 1) := by decide +kernel
theorem dX0_copyFrom_24 : decode cX0_copyFrom 24 = .ok (.iconst 5, 1) := by decide +kernel
theorem dX0_copyFrom_25 : decode cX0_copyFrom 25 = .ok (.invokestatic 43, 3) := by decide +kernel
theorem dX0_copyFrom_28 : decode cX0_copyFrom 28 = .ok (.aload_n 1, 1) := by decide +kernel
theorem dX0_copyFrom_29 : decode cX0_copyFrom 29 = .ok (.getfield 18, 3) := by decide +kernel
theorem dX0_copyFrom_32 : decode cX0_copyFrom 32 = .ok (.iconst 0, 1) := by decide +kernel
theorem dX0_copyFrom_33 : decode cX0_copyFrom 33 = .ok (.aload_n 0, 1) := by decide +kernel
theorem dX0_copyFrom_34 : decode cX0_copyFrom 34 = .ok (.getfield 18, 3) := by decide +kernel
theorem dX0_copyFrom_37 : decode cX0_copyFrom 37 = .ok (.iconst 0, 1) := by decide +kernel
theorem dX0_copyFrom_38 : decode cX0_copyFrom 38 = .ok (.iconst 5, 1) := by decide +kernel
theorem dX0_copyFrom_39 : decode cX0_copyFrom 39 = .ok (.invokestatic 43, 3) := by decide +kernel
theorem dX0_copyFrom_42 : decode cX0_copyFrom 42 = .ok (.aload_n 1, 1) := by decide +kernel
theorem dX0_copyFrom_43 : decode cX0_copyFrom 43 = .ok (.getfield 21, 3) := by decide +kernel
theorem dX0_copyFrom_46 : decode cX0_copyFrom 46 = .ok (.iconst 0, 1) := by decide +kernel
theorem dX0_copyFrom_47 : decode cX0_copyFrom 47 = .ok (.aload_n 0, 1) := by decide +kernel
theorem dX0_copyFrom_48 : decode cX0_copyFrom 48 = .ok (.getfield 21, 3) := by decide +kernel
theorem dX0_copyFrom_51 : decode cX0_copyFrom 51 = .ok (.iconst 0, 1) := by decide +kernel
theorem dX0_copyFrom_52 : decode cX0_copyFrom 52 = .ok (.iconst 4, 1) := by decide +kernel
theorem dX0_copyFrom_53 : decode cX0_copyFrom 53 = .ok (.invokestatic 43, 3) := by decide +kernel
theorem dX0_copyFrom_56 : decode cX0_copyFrom 56 = .ok (.aload_n 1, 1) := by decide +kernel
theorem dX0_copyFrom_57 : decode cX0_copyFrom 57 = .ok (.getfield 24, 3) := by decide +kernel
theorem dX0_copyFrom_60 : decode cX0_copyFrom 60 = .ok (.iconst 0, 1) := by decide +kernel
theorem dX0_copyFrom_61 : decode cX0_copyFrom 61 = .ok (.aload_n 0, 1) := by decide +kernel
theorem dX0_copyFrom_62 : decode cX0_copyFrom 62 = .ok (.getfield 24, 3) := by decide +kernel
theorem dX0_copyFrom_65 : decode cX0_copyFrom 65 = .ok (.iconst 0, 1) := by decide +kernel
theorem dX0_copyFrom_66 : decode cX0_copyFrom 66 = .ok (.iconst 5, 1) := by decide +kernel
theorem dX0_copyFrom_67 : decode cX0_copyFrom 67 = .ok (.invokestatic 43, 3) := by decide +kernel
theorem dX0_copyFrom_70 : decode cX0_copyFrom 70 = .ok (.aload_n 1, 1) := by decide +kernel
theorem dX0_copyFrom_71 : decode cX0_copyFrom 71 = .ok (.getfield 27, 3) := by decide +kernel
theorem dX0_copyFrom_74 : decode cX0_copyFrom 74 = .ok (.iconst 0, 1) := by decide +kernel
theorem dX0_copyFrom_75 : decode cX0_copyFrom 75 = .ok (.aload_n 0, 1) := by decide +kernel
theorem dX0_copyFrom_76 : decode cX0_copyFrom 76 = .ok (.getfield 27, 3) := by decide +kernel
theorem dX0_copyFrom_79 : decode cX0_copyFrom 79 = .ok (.iconst 0, 1) := by decide +kernel
theorem dX0_copyFrom_80 : decode cX0_copyFrom 80 = .ok (.iconst 5, 1) := by decide +kernel
theorem dX0_copyFrom_81 : decode cX0_copyFrom 81 = .ok (.invokestatic 43, 3) := by decide +kernel
theorem dX0_copyFrom_84 : decode cX0_copyFrom 84 = .ok (.aload_n 0, 1) := by decide +kernel
theorem dX0_copyFrom_85 : decode cX0_copyFrom 85 = .ok (.aload_n 1, 1) := by decide +kernel
theorem dX0_copyFrom_86 : decode cX0_copyFrom 86 = .ok (.getfield 30, 3) := by decide +kernel
theorem dX0_copyFrom_89 : decode cX0_copyFrom 89 = .ok (.putfield 30, 3) := by decide +kernel
theorem dX0_copyFrom_92 : decode cX0_copyFrom 92 = .ok (.aload_n 0, 1) := by decide +kernel
theorem dX0_copyFrom_93 : decode cX0_copyFrom 93 = .ok (.aload_n 1, 1) := by decide +kernel
theorem dX0_copyFrom_94 : decode cX0_copyFrom 94 = .ok (.getfield 34, 3) := by decide +kernel
theorem dX0_copyFrom_97 : decode cX0_copyFrom 97 = .ok (.putfield 34, 3) := by decide +kernel
theorem dX0_copyFrom_100 : decode cX0_copyFrom 100 = .ok (.aload_n 0, 1) := by decide +kernel
theorem dX0_copyFrom_101 : decode cX0_copyFrom 101 = .ok (.aload_n 1, 1) := by decide +kernel
theorem dX0_copyFrom_102 : decode cX0_copyFrom 102 = .ok (.getfield 37, 3) := by decide +kernel
theorem dX0_copyFrom_105 : decode cX0_copyFrom 105 = .ok (.putfield 37, 3) := by decide +kernel
theorem dX0_copyFrom_108 : decode cX0_copyFrom 108 = .ok (.aload_n 0, 1) := by decide +kernel
theorem dX0_copyFrom_109 : decode cX0_copyFrom 109 = .ok (.aload_n 1, 1) := by decide +kernel
theorem dX0_copyFrom_110 : decode cX0_copyFrom 110 = .ok (.getfield 40, 3) := by decide +kernel
theorem dX0_copyFrom_113 : decode cX0_copyFrom 113 = .ok (.putfield 40, 3) := by decide +kernel
theorem dX0_copyFrom_116 : decode cX0_copyFrom 116 = .ok (.return_, 1) := by decide +kernel
set_option maxRecDepth 20000 in
theorem ggX0_hasBeast_X6_within : GoodIn wsX0_hasBeast wsX6_within := goodIn_r _ [4] (by decide +kernel) (by decide +kernel)
set_option maxRecDepth 20000 in
theorem gX0_hasBeast_X6_within_n49 : GoodIn wsX0_hasBeast (wsX6_within) := ggX0_hasBeast_X6_within
theorem dX0_hasBeast_0 : decode cX0_hasBeast 0 = .ok (.iload_n 1, 1) := by decide +kernel
theorem dX0_hasBeast_1 : decode cX0_hasBeast 1 = .ok (.iconst 0, 1) := by decide +kernel
theorem dX0_hasBeast_2 : decode cX0_hasBeast 2 = .ok (.aload_n 0, 1) := by decide +kernel
theorem dX0_hasBeast_3 : decode cX0_hasBeast 3 = .ok (.getfield 30, 3) := by decide +kernel
theorem dX0_hasBeast_6 : decode cX0_hasBeast 6 = .ok (.iconst 1, 1) := by decide +kernel
theorem dX0_hasBeast_7 : decode cX0_hasBeast 7 = .ok (.isub, 1) := by decide +kernel
theorem dX0_hasBeast_8 : decode cX0_hasBeast 8 = .ok (.invokestatic 49, 3) := by decide +kernel
theorem dX0_hasBeast_11 : decode cX0_hasBeast 11 = .ok (.ireturn, 1) := by decide +kernel
set_option maxRecDepth 20000 in
theorem ggX0_hasRobber_X6_within : GoodIn wsX0_hasRobber wsX6_within := goodIn_r _ [4] (by decide +kernel) (by decide +kernel)
set_option maxRecDepth 20000 in
theorem gX0_hasRobber_X6_within_n49 : GoodIn wsX0_hasRobber (wsX6_within) := ggX0_hasRobber_X6_within
theorem dX0_hasRobber_0 : decode cX0_hasRobber 0 = .ok (.iload_n 1, 1) := by decide +kernel
theorem dX0_hasRobber_1 : decode cX0_hasRobber 1 = .ok (.iconst 0, 1) := by decide +kernel
theorem dX0_hasRobber_2 : decode cX0_hasRobber 2 = .ok (.aload_n 0, 1) := by decide +kernel
theorem dX0_hasRobber_3 : decode cX0_hasRobber 3 = .ok (.getfield 34, 3) := by decide +kernel
theorem dX0_hasRobber_6 : decode cX0_hasRobber 6 = .ok (.iconst 1, 1) := by decide +kernel
theorem dX0_hasRobber_7 : decode cX0_hasRobber 7 = .ok (.isub, 1) := by decide +kernel
theorem dX0_hasRobber_8 : decode cX0_hasRobber 8 = .ok (.invokestatic 49, 3) := by decide +kernel
theorem dX0_hasRobber_11 : decode cX0_hasRobber 11 = .ok (.ireturn, 1) := by decide +kernel
set_option maxRecDepth 20000 in
theorem ggX0_bears_X0_byKind : GoodIn wsX0_bears wsX0_byKind := goodIn_r _ [6] (by decide +kernel) (by decide +kernel)
set_option maxRecDepth 20000 in
theorem gX0_bears_X0_byKind : GoodIn wsX0_bears (va_wsS RX0 53 yX0_byKind wsX0_byKind) := goodIn_app (goodIn_of _ (by decide +kernel)) ggX0_bears_X0_byKind
theorem dX0_bears_0 : decode cX0_bears 0 = .ok (.aload_n 0, 1) := by decide +kernel
theorem dX0_bears_1 : decode cX0_bears 1 = .ok (.getfield 9, 3) := by decide +kernel
theorem dX0_bears_4 : decode cX0_bears 4 = .ok (.iload_n 1, 1) := by decide +kernel
theorem dX0_bears_5 : decode cX0_bears 5 = .ok (.iaload, 1) := by decide +kernel
theorem dX0_bears_6 : decode cX0_bears 6 = .ok (.aload_n 0, 1) := by decide +kernel
theorem dX0_bears_7 : decode cX0_bears 7 = .ok (.getfield 15, 3) := by decide +kernel
theorem dX0_bears_10 : decode cX0_bears 10 = .ok (.iload_n 1, 1) := by decide +kernel
theorem dX0_bears_11 : decode cX0_bears 11 = .ok (.iaload, 1) := by decide +kernel
theorem dX0_bears_12 : decode cX0_bears 12 = .ok (.invokestatic 53, 3) := by decide +kernel
theorem dX0_bears_15 : decode cX0_bears 15 = .ok (.ireturn, 1) := by decide +kernel
set_option maxRecDepth 20000 in
theorem ggX0_hurts_X0_byKind : GoodIn wsX0_hurts wsX0_byKind := goodIn_r _ [5] (by decide +kernel) (by decide +kernel)
set_option maxRecDepth 20000 in
theorem gX0_hurts_X0_byKind : GoodIn wsX0_hurts (va_wsS RX0 53 yX0_byKind wsX0_byKind) := goodIn_app (goodIn_of _ (by decide +kernel)) ggX0_hurts_X0_byKind
theorem dX0_hurts_0 : decode cX0_hurts 0 = .ok (.aload_n 0, 1) := by decide +kernel
theorem dX0_hurts_1 : decode cX0_hurts 1 = .ok (.getfield 9, 3) := by decide +kernel
theorem dX0_hurts_4 : decode cX0_hurts 4 = .ok (.iload_n 1, 1) := by decide +kernel
theorem dX0_hurts_5 : decode cX0_hurts 5 = .ok (.iaload, 1) := by decide +kernel
theorem dX0_hurts_6 : decode cX0_hurts 6 = .ok (.iconst 1, 1) := by decide +kernel
theorem dX0_hurts_7 : decode cX0_hurts 7 = .ok (.invokestatic 53, 3) := by decide +kernel
theorem dX0_hurts_10 : decode cX0_hurts 10 = .ok (.ireturn, 1) := by decide +kernel
theorem dX0_byKind_0 : decode cX0_byKind 0 = .ok (.iload_n 0, 1) := by decide +kernel
theorem dX0_byKind_1 : decode cX0_byKind 1 = .ok (.tableswitch 39 0 2 #[27, 29, 33], 27) := by decide +kernel
theorem dX0_byKind_28 : decode cX0_byKind 28 = .ok (.iload_n 1, 1) := by decide +kernel
theorem dX0_byKind_29 : decode cX0_byKind 29 = .ok (.ireturn, 1) := by decide +kernel
theorem dX0_byKind_30 : decode cX0_byKind 30 = .ok (.iload_n 1, 1) := by decide +kernel
theorem dX0_byKind_31 : decode cX0_byKind 31 = .ok (.iconst 1, 1) := by decide +kernel
theorem dX0_byKind_32 : decode cX0_byKind 32 = .ok (.iadd, 1) := by decide +kernel
theorem dX0_byKind_33 : decode cX0_byKind 33 = .ok (.ireturn, 1) := by decide +kernel
theorem dX0_byKind_34 : decode cX0_byKind 34 = .ok (.iconst 2, 1) := by decide +kernel
theorem dX0_byKind_35 : decode cX0_byKind 35 = .ok (.iload_n 1, 1) := by decide +kernel
theorem dX0_byKind_36 : decode cX0_byKind 36 = .ok (.iconst 1, 1) := by decide +kernel
theorem dX0_byKind_37 : decode cX0_byKind 37 = .ok (.iadd, 1) := by decide +kernel
theorem dX0_byKind_38 : decode cX0_byKind 38 = .ok (.imul, 1) := by decide +kernel
theorem dX0_byKind_39 : decode cX0_byKind 39 = .ok (.ireturn, 1) := by decide +kernel
theorem dX0_byKind_40 : decode cX0_byKind 40 = .ok (.iconst 2, 1) := by decide +kernel
theorem dX0_byKind_41 : decode cX0_byKind 41 = .ok (.iload_n 1, 1) := by decide +kernel
theorem dX0_byKind_42 : decode cX0_byKind 42 = .ok (.iconst 1, 1) := by decide +kernel
theorem dX0_byKind_43 : decode cX0_byKind 43 = .ok (.iadd, 1) := by decide +kernel
theorem dX0_byKind_44 : decode cX0_byKind 44 = .ok (.imul, 1) := by decide +kernel
theorem dX0_byKind_45 : decode cX0_byKind 45 = .ok (.iconst 3, 1) := by decide +kernel
theorem dX0_byKind_46 : decode cX0_byKind 46 = .ok (.iadd, 1) := by decide +kernel
theorem dX0_byKind_47 : decode cX0_byKind 47 = .ok (.ireturn, 1) := by decide +kernel
theorem dX0_towerBits_0 : decode cX0_towerBits 0 = .ok (.iconst 0, 1) := by decide +kernel
theorem dX0_towerBits_1 : decode cX0_towerBits 1 = .ok (.istore_n 1, 1) := by decide +kernel
theorem dX0_towerBits_2 : decode cX0_towerBits 2 = .ok (.iconst 0, 1) := by decide +kernel
theorem dX0_towerBits_3 : decode cX0_towerBits 3 = .ok (.istore_n 2, 1) := by decide +kernel
theorem dX0_towerBits_4 : decode cX0_towerBits 4 = .ok (.iload_n 2, 1) := by decide +kernel
theorem dX0_towerBits_5 : decode cX0_towerBits 5 = .ok (.aload_n 0, 1) := by decide +kernel
theorem dX0_towerBits_6 : decode cX0_towerBits 6 = .ok (.getfield 37, 3) := by decide +kernel
theorem dX0_towerBits_9 : decode cX0_towerBits 9 = .ok (.if_icmp .ge 20, 3) := by decide +kernel
theorem dX0_towerBits_12 : decode cX0_towerBits 12 = .ok (.iload_n 1, 1) := by decide +kernel
theorem dX0_towerBits_13 : decode cX0_towerBits 13 = .ok (.iconst 1, 1) := by decide +kernel
theorem dX0_towerBits_14 : decode cX0_towerBits 14 = .ok (.aload_n 0, 1) := by decide +kernel
theorem dX0_towerBits_15 : decode cX0_towerBits 15 = .ok (.getfield 24, 3) := by decide +kernel
theorem dX0_towerBits_18 : decode cX0_towerBits 18 = .ok (.iload_n 2, 1) := by decide +kernel
theorem dX0_towerBits_19 : decode cX0_towerBits 19 = .ok (.iaload, 1) := by decide +kernel
theorem dX0_towerBits_20 : decode cX0_towerBits 20 = .ok (.ishl, 1) := by decide +kernel
theorem dX0_towerBits_21 : decode cX0_towerBits 21 = .ok (.ior, 1) := by decide +kernel
theorem dX0_towerBits_22 : decode cX0_towerBits 22 = .ok (.istore_n 1, 1) := by decide +kernel
theorem dX0_towerBits_23 : decode cX0_towerBits 23 = .ok (.iinc 2 1, 3) := by decide +kernel
theorem dX0_towerBits_26 : decode cX0_towerBits 26 = .ok (.goto (-22), 3) := by decide +kernel
theorem dX0_towerBits_29 : decode cX0_towerBits 29 = .ok (.iload_n 1, 1) := by decide +kernel
theorem dX0_towerBits_30 : decode cX0_towerBits 30 = .ok (.ireturn, 1) := by decide +kernel
set_option maxRecDepth 20000 in
theorem ggX0_stands_X0_carries : GoodIn wsX0_stands wsX0_carries := goodIn_r _ [7, 8, 9, 10, 11, 6, 12, 13, 14, 15, 16, 17, 18, 19, 20, 21, 22, 23, 24, 25, 26] (by decide +kernel) (by decide +kernel)
set_option maxRecDepth 20000 in
theorem gX0_stands_X0_carries : GoodIn wsX0_stands (wsV RX0 57 RX0 yX0_carries wsX0_carries) := goodIn_app (goodIn_of _ (by decide +kernel)) ggX0_stands_X0_carries
theorem dX0_stands_0 : decode cX0_stands 0 = .ok (.aload_n 0, 1) := by decide +kernel
theorem dX0_stands_1 : decode cX0_stands 1 = .ok (.aload_n 0, 1) := by decide +kernel
theorem dX0_stands_2 : decode cX0_stands 2 = .ok (.getfield 24, 3) := by decide +kernel
theorem dX0_stands_5 : decode cX0_stands 5 = .ok (.aload_n 0, 1) := by decide +kernel
theorem dX0_stands_6 : decode cX0_stands 6 = .ok (.getfield 37, 3) := by decide +kernel
theorem dX0_stands_9 : decode cX0_stands 9 = .ok (.iconst 0, 1) := by decide +kernel
theorem dX0_stands_10 : decode cX0_stands 10 = .ok (.invokevirtual 57, 3) := by decide +kernel
theorem dX0_stands_13 : decode cX0_stands 13 = .ok (.ireturn, 1) := by decide +kernel
set_option maxRecDepth 20000 in
theorem ggX0_canClimb_X0_towerBits : GoodIn wsX0_canClimb wsX0_towerBits := goodIn_r _ [8, 1, 2, 21, 22, 23, 24, 25, 26, 27, 28, 29, 30] (by decide +kernel) (by decide +kernel)
set_option maxRecDepth 20000 in
theorem gX0_canClimb_X0_towerBits : GoodIn wsX0_canClimb (wsV RX0 61 RX0 yX0_towerBits wsX0_towerBits) := goodIn_app (goodIn_of _ (by decide +kernel)) ggX0_canClimb_X0_towerBits
set_option maxRecDepth 20000 in
theorem ggX0_canClimb_X0_carries : GoodIn wsX0_canClimb wsX0_carries := goodIn_r _ [12, 3, 13, 14, 15, 7, 16, 17, 18, 19, 20, 21, 22, 23, 24, 25, 26, 27, 28, 29, 30] (by decide +kernel) (by decide +kernel)
set_option maxRecDepth 20000 in
theorem gX0_canClimb_X0_carries : GoodIn wsX0_canClimb (wsV RX0 57 RX0 yX0_carries wsX0_carries) := goodIn_app (goodIn_of _ (by decide +kernel)) ggX0_canClimb_X0_carries
theorem dX0_canClimb_0 : decode cX0_canClimb 0 = .ok (.aload_n 0, 1) := by decide +kernel
theorem dX0_canClimb_1 : decode cX0_canClimb 1 = .ok (.getfield 37, 3) := by decide +kernel
theorem dX0_canClimb_4 : decode cX0_canClimb 4 = .ok (.iconst 5, 1) := by decide +kernel
theorem dX0_canClimb_5 : decode cX0_canClimb 5 = .ok (.if_icmp .ge 39, 3) := by decide +kernel
theorem dX0_canClimb_8 : decode cX0_canClimb 8 = .ok (.aload_n 0, 1) := by decide +kernel
theorem dX0_canClimb_9 : decode cX0_canClimb 9 = .ok (.invokevirtual 61, 3) := by decide +kernel
theorem dX0_canClimb_12 : decode cX0_canClimb 12 = .ok (.iload_n 1, 1) := by decide +kernel
theorem dX0_canClimb_13 : decode cX0_canClimb 13 = .ok (.ishr, 1) := by decide +kernel
theorem dX0_canClimb_14 : decode cX0_canClimb 14 = .ok (.iconst 1, 1) := by decide +kernel
theorem dX0_canClimb_15 : decode cX0_canClimb 15 = .ok (.iand, 1) := by decide +kernel
theorem dX0_canClimb_16 : decode cX0_canClimb 16 = .ok (.ifCond .ne 28, 3) := by decide +kernel
theorem dX0_canClimb_19 : decode cX0_canClimb 19 = .ok (.aload_n 0, 1) := by decide +kernel
theorem dX0_canClimb_20 : decode cX0_canClimb 20 = .ok (.aload_n 0, 1) := by decide +kernel
theorem dX0_canClimb_21 : decode cX0_canClimb 21 = .ok (.getfield 24, 3) := by decide +kernel
theorem dX0_canClimb_24 : decode cX0_canClimb 24 = .ok (.aload_n 0, 1) := by decide +kernel
theorem dX0_canClimb_25 : decode cX0_canClimb 25 = .ok (.getfield 37, 3) := by decide +kernel
theorem dX0_canClimb_28 : decode cX0_canClimb 28 = .ok (.aload_n 0, 1) := by decide +kernel
theorem dX0_canClimb_29 : decode cX0_canClimb 29 = .ok (.getfield 15, 3) := by decide +kernel
theorem dX0_canClimb_32 : decode cX0_canClimb 32 = .ok (.iload_n 1, 1) := by decide +kernel
theorem dX0_canClimb_33 : decode cX0_canClimb 33 = .ok (.iaload, 1) := by decide +kernel
theorem dX0_canClimb_34 : decode cX0_canClimb 34 = .ok (.invokevirtual 57, 3) := by decide +kernel
theorem dX0_canClimb_37 : decode cX0_canClimb 37 = .ok (.ifCond .eq 7, 3) := by decide +kernel
theorem dX0_canClimb_40 : decode cX0_canClimb 40 = .ok (.iconst 1, 1) := by decide +kernel
theorem dX0_canClimb_41 : decode cX0_canClimb 41 = .ok (.goto 4, 3) := by decide +kernel
theorem dX0_canClimb_44 : decode cX0_canClimb 44 = .ok (.iconst 0, 1) := by decide +kernel
theorem dX0_canClimb_45 : decode cX0_canClimb 45 = .ok (.ireturn, 1) := by decide +kernel
set_option maxRecDepth 20000 in
theorem ggX0_carries_X0_bears : GoodIn wsX0_carries wsX0_bears := goodIn_r _ [6, 7, 1, 8, 9, 5, 10, 11, 12, 13, 14, 15, 16, 17, 18, 19, 20] (by decide +kernel) (by decide +kernel)
set_option maxRecDepth 20000 in
theorem gX0_carries_X0_bears : GoodIn wsX0_carries (wsV RX0 65 RX0 yX0_bears wsX0_bears) := goodIn_app (goodIn_of _ (by decide +kernel)) ggX0_carries_X0_bears
theorem dX0_carries_0 : decode cX0_carries 0 = .ok (.iload_n 3, 1) := by decide +kernel
theorem dX0_carries_1 : decode cX0_carries 1 = .ok (.istore 4, 2) := by decide +kernel
theorem dX0_carries_3 : decode cX0_carries 3 = .ok (.iload_n 2, 1) := by decide +kernel
theorem dX0_carries_4 : decode cX0_carries 4 = .ok (.iconst 1, 1) := by decide +kernel
theorem dX0_carries_5 : decode cX0_carries 5 = .ok (.isub, 1) := by decide +kernel
theorem dX0_carries_6 : decode cX0_carries 6 = .ok (.istore 5, 2) := by decide +kernel
theorem dX0_carries_8 : decode cX0_carries 8 = .ok (.iload 5, 2) := by decide +kernel
theorem dX0_carries_10 : decode cX0_carries 10 = .ok (.ifCond .lt 38, 3) := by decide +kernel
theorem dX0_carries_13 : decode cX0_carries 13 = .ok (.aload_n 0, 1) := by decide +kernel
theorem dX0_carries_14 : decode cX0_carries 14 = .ok (.aload_n 1, 1) := by decide +kernel
theorem dX0_carries_15 : decode cX0_carries 15 = .ok (.iload 5, 2) := by decide +kernel
theorem dX0_carries_17 : decode cX0_carries 17 = .ok (.iaload, 1) := by decide +kernel
theorem dX0_carries_18 : decode cX0_carries 18 = .ok (.invokevirtual 65, 3) := by decide +kernel
theorem dX0_carries_21 : decode cX0_carries 21 = .ok (.iload 4, 2) := by decide +kernel
theorem dX0_carries_23 : decode cX0_carries 23 = .ok (.if_icmp .ge 5, 3) := by decide +kernel
theorem dX0_carries_26 : decode cX0_carries 26 = .ok (.iconst 0, 1) := by decide +kernel
theorem dX0_carries_27 : decode cX0_carries 27 = .ok (.ireturn, 1) := by decide +kernel
theorem dX0_carries_28 : decode cX0_carries 28 = .ok (.iload 4, 2) := by decide +kernel
theorem dX0_carries_30 : decode cX0_carries 30 = .ok (.aload_n 0, 1) := by decide +kernel
theorem dX0_carries_31 : decode cX0_carries 31 = .ok (.getfield 15, 3) := by decide +kernel
theorem dX0_carries_34 : decode cX0_carries 34 = .ok (.aload_n 1, 1) := by decide +kernel
theorem dX0_carries_35 : decode cX0_carries 35 = .ok (.iload 5, 2) := by decide +kernel
theorem dX0_carries_37 : decode cX0_carries 37 = .ok (.iaload, 1) := by decide +kernel
theorem dX0_carries_38 : decode cX0_carries 38 = .ok (.iaload, 1) := by decide +kernel
theorem dX0_carries_39 : decode cX0_carries 39 = .ok (.iadd, 1) := by decide +kernel
theorem dX0_carries_40 : decode cX0_carries 40 = .ok (.istore 4, 2) := by decide +kernel
theorem dX0_carries_42 : decode cX0_carries 42 = .ok (.iinc 5 (-1), 3) := by decide +kernel
theorem dX0_carries_45 : decode cX0_carries 45 = .ok (.goto (-37), 3) := by decide +kernel
theorem dX0_carries_48 : decode cX0_carries 48 = .ok (.iconst 1, 1) := by decide +kernel
theorem dX0_carries_49 : decode cX0_carries 49 = .ok (.ireturn, 1) := by decide +kernel
theorem dX0_noiseBy_0 : decode cX0_noiseBy 0 = .ok (.iconst 0, 1) := by decide +kernel
theorem dX0_noiseBy_1 : decode cX0_noiseBy 1 = .ok (.istore 4, 2) := by decide +kernel
theorem dX0_noiseBy_3 : decode cX0_noiseBy 3 = .ok (.iconst 0, 1) := by decide +kernel
theorem dX0_noiseBy_4 : decode cX0_noiseBy 4 = .ok (.istore 5, 2) := by decide +kernel
theorem dX0_noiseBy_6 : decode cX0_noiseBy 6 = .ok (.iload 5, 2) := by decide +kernel
theorem dX0_noiseBy_8 : decode cX0_noiseBy 8 = .ok (.iload_n 2, 1) := by decide +kernel
theorem dX0_noiseBy_9 : decode cX0_noiseBy 9 = .ok (.if_icmp .ge 25, 3) := by decide +kernel
theorem dX0_noiseBy_12 : decode cX0_noiseBy 12 = .ok (.iload 4, 2) := by decide +kernel
theorem dX0_noiseBy_14 : decode cX0_noiseBy 14 = .ok (.aload_n 3, 1) := by decide +kernel
theorem dX0_noiseBy_15 : decode cX0_noiseBy 15 = .ok (.aload_n 1, 1) := by decide +kernel
theorem dX0_noiseBy_16 : decode cX0_noiseBy 16 = .ok (.iload 5, 2) := by decide +kernel
theorem dX0_noiseBy_18 : decode cX0_noiseBy 18 = .ok (.iaload, 1) := by decide +kernel
theorem dX0_noiseBy_19 : decode cX0_noiseBy 19 = .ok (.iaload, 1) := by decide +kernel
theorem dX0_noiseBy_20 : decode cX0_noiseBy 20 = .ok (.iload 5, 2) := by decide +kernel
theorem dX0_noiseBy_22 : decode cX0_noiseBy 22 = .ok (.iconst 1, 1) := by decide +kernel
theorem dX0_noiseBy_23 : decode cX0_noiseBy 23 = .ok (.iadd, 1) := by decide +kernel
theorem dX0_noiseBy_24 : decode cX0_noiseBy 24 = .ok (.imul, 1) := by decide +kernel
theorem dX0_noiseBy_25 : decode cX0_noiseBy 25 = .ok (.iadd, 1) := by decide +kernel
theorem dX0_noiseBy_26 : decode cX0_noiseBy 26 = .ok (.istore 4, 2) := by decide +kernel
theorem dX0_noiseBy_28 : decode cX0_noiseBy 28 = .ok (.iinc 5 1, 3) := by decide +kernel
theorem dX0_noiseBy_31 : decode cX0_noiseBy 31 = .ok (.goto (-25), 3) := by decide +kernel
theorem dX0_noiseBy_34 : decode cX0_noiseBy 34 = .ok (.iload 4, 2) := by decide +kernel
theorem dX0_noiseBy_36 : decode cX0_noiseBy 36 = .ok (.ireturn, 1) := by decide +kernel
theorem dX0_fledBits_0 : decode cX0_fledBits 0 = .ok (.iconst 0, 1) := by decide +kernel
theorem dX0_fledBits_1 : decode cX0_fledBits 1 = .ok (.istore_n 2, 1) := by decide +kernel
theorem dX0_fledBits_2 : decode cX0_fledBits 2 = .ok (.iload_n 1, 1) := by decide +kernel
theorem dX0_fledBits_3 : decode cX0_fledBits 3 = .ok (.istore_n 3, 1) := by decide +kernel
theorem dX0_fledBits_4 : decode cX0_fledBits 4 = .ok (.iconst 0, 1) := by decide +kernel
theorem dX0_fledBits_5 : decode cX0_fledBits 5 = .ok (.istore 4, 2) := by decide +kernel
theorem dX0_fledBits_7 : decode cX0_fledBits 7 = .ok (.iload 4, 2) := by decide +kernel
theorem dX0_fledBits_9 : decode cX0_fledBits 9 = .ok (.aload_n 0, 1) := by decide +kernel
theorem dX0_fledBits_10 : decode cX0_fledBits 10 = .ok (.getfield 34, 3) := by decide +kernel
theorem dX0_fledBits_13 : decode cX0_fledBits 13 = .ok (.if_icmp .ge 30, 3) := by decide +kernel
theorem dX0_fledBits_16 : decode cX0_fledBits 16 = .ok (.iload_n 3, 1) := by decide +kernel
theorem dX0_fledBits_17 : decode cX0_fledBits 17 = .ok (.aload_n 0, 1) := by decide +kernel
theorem dX0_fledBits_18 : decode cX0_fledBits 18 = .ok (.getfield 21, 3) := by decide +kernel
theorem dX0_fledBits_21 : decode cX0_fledBits 21 = .ok (.iload 4, 2) := by decide +kernel
theorem dX0_fledBits_23 : decode cX0_fledBits 23 = .ok (.iaload, 1) := by decide +kernel
theorem dX0_fledBits_24 : decode cX0_fledBits 24 = .ok (.if_icmp .le 13, 3) := by decide +kernel
theorem dX0_fledBits_27 : decode cX0_fledBits 27 = .ok (.iload_n 2, 1) := by decide +kernel
theorem dX0_fledBits_28 : decode cX0_fledBits 28 = .ok (.iconst 1, 1) := by decide +kernel
theorem dX0_fledBits_29 : decode cX0_fledBits 29 = .ok (.iload 4, 2) := by decide +kernel
theorem dX0_fledBits_31 : decode cX0_fledBits 31 = .ok (.ishl, 1) := by decide +kernel
theorem dX0_fledBits_32 : decode cX0_fledBits 32 = .ok (.ior, 1) := by decide +kernel
theorem dX0_fledBits_33 : decode cX0_fledBits 33 = .ok (.istore_n 2, 1) := by decide +kernel
theorem dX0_fledBits_34 : decode cX0_fledBits 34 = .ok (.iinc 3 2, 3) := by decide +kernel
theorem dX0_fledBits_37 : decode cX0_fledBits 37 = .ok (.iinc 4 1, 3) := by decide +kernel
theorem dX0_fledBits_40 : decode cX0_fledBits 40 = .ok (.goto (-33), 3) := by decide +kernel
theorem dX0_fledBits_43 : decode cX0_fledBits 43 = .ok (.iload_n 2, 1) := by decide +kernel
theorem dX0_fledBits_44 : decode cX0_fledBits 44 = .ok (.ireturn, 1) := by decide +kernel
set_option maxRecDepth 20000 in
theorem ggX0_metOn_X0_hurts : GoodIn wsX0_metOn wsX0_hurts := goodIn_r _ [7, 8, 9, 10, 6, 11, 12, 13, 14, 15, 16, 17, 18, 19, 20, 21] (by decide +kernel) (by decide +kernel)
set_option maxRecDepth 20000 in
theorem gX0_metOn_X0_hurts : GoodIn wsX0_metOn (wsV RX0 69 RX0 yX0_hurts wsX0_hurts) := goodIn_app (goodIn_of _ (by decide +kernel)) ggX0_metOn_X0_hurts
theorem dX0_metOn_0 : decode cX0_metOn 0 = .ok (.iconst 0, 1) := by decide +kernel
theorem dX0_metOn_1 : decode cX0_metOn 1 = .ok (.istore_n 2, 1) := by decide +kernel
theorem dX0_metOn_2 : decode cX0_metOn 2 = .ok (.iconst 0, 1) := by decide +kernel
theorem dX0_metOn_3 : decode cX0_metOn 3 = .ok (.istore_n 3, 1) := by decide +kernel
theorem dX0_metOn_4 : decode cX0_metOn 4 = .ok (.iload_n 3, 1) := by decide +kernel
theorem dX0_metOn_5 : decode cX0_metOn 5 = .ok (.aload_n 0, 1) := by decide +kernel
theorem dX0_metOn_6 : decode cX0_metOn 6 = .ok (.getfield 30, 3) := by decide +kernel
theorem dX0_metOn_9 : decode cX0_metOn 9 = .ok (.if_icmp .ge 27, 3) := by decide +kernel
theorem dX0_metOn_12 : decode cX0_metOn 12 = .ok (.iload_n 2, 1) := by decide +kernel
theorem dX0_metOn_13 : decode cX0_metOn 13 = .ok (.aload_n 0, 1) := by decide +kernel
theorem dX0_metOn_14 : decode cX0_metOn 14 = .ok (.getfield 40, 3) := by decide +kernel
theorem dX0_metOn_17 : decode cX0_metOn 17 = .ok (.if_icmp .gt 19, 3) := by decide +kernel
theorem dX0_metOn_20 : decode cX0_metOn 20 = .ok (.iload_n 2, 1) := by decide +kernel
theorem dX0_metOn_21 : decode cX0_metOn 21 = .ok (.aload_n 0, 1) := by decide +kernel
theorem dX0_metOn_22 : decode cX0_metOn 22 = .ok (.aload_n 1, 1) := by decide +kernel
theorem dX0_metOn_23 : decode cX0_metOn 23 = .ok (.iload_n 3, 1) := by decide +kernel
theorem dX0_metOn_24 : decode cX0_metOn 24 = .ok (.iaload, 1) := by decide +kernel
theorem dX0_metOn_25 : decode cX0_metOn 25 = .ok (.invokevirtual 69, 3) := by decide +kernel
theorem dX0_metOn_28 : decode cX0_metOn 28 = .ok (.iadd, 1) := by decide +kernel
theorem dX0_metOn_29 : decode cX0_metOn 29 = .ok (.istore_n 2, 1) := by decide +kernel
theorem dX0_metOn_30 : decode cX0_metOn 30 = .ok (.iinc 3 1, 3) := by decide +kernel
theorem dX0_metOn_33 : decode cX0_metOn 33 = .ok (.goto (-29), 3) := by decide +kernel
theorem dX0_metOn_36 : decode cX0_metOn 36 = .ok (.iload_n 3, 1) := by decide +kernel
theorem dX0_metOn_37 : decode cX0_metOn 37 = .ok (.ireturn, 1) := by decide +kernel
set_option maxRecDepth 20000 in
theorem ggX0_hurtBehind_X0_hurts : GoodIn wsX0_hurtBehind wsX0_hurts := goodIn_r _ [5, 6, 7, 8, 4, 9, 10, 11, 12, 13, 14, 15, 16, 17, 18, 19] (by decide +kernel) (by decide +kernel)
set_option maxRecDepth 20000 in
theorem gX0_hurtBehind_X0_hurts : GoodIn wsX0_hurtBehind (wsV RX0 69 RX0 yX0_hurts wsX0_hurts) := goodIn_app (goodIn_of _ (by decide +kernel)) ggX0_hurtBehind_X0_hurts
theorem dX0_hurtBehind_0 : decode cX0_hurtBehind 0 = .ok (.iconst 0, 1) := by decide +kernel
theorem dX0_hurtBehind_1 : decode cX0_hurtBehind 1 = .ok (.istore_n 3, 1) := by decide +kernel
theorem dX0_hurtBehind_2 : decode cX0_hurtBehind 2 = .ok (.iconst 0, 1) := by decide +kernel
theorem dX0_hurtBehind_3 : decode cX0_hurtBehind 3 = .ok (.istore 4, 2) := by decide +kernel
theorem dX0_hurtBehind_5 : decode cX0_hurtBehind 5 = .ok (.iload 4, 2) := by decide +kernel
theorem dX0_hurtBehind_7 : decode cX0_hurtBehind 7 = .ok (.iload_n 2, 1) := by decide +kernel
theorem dX0_hurtBehind_8 : decode cX0_hurtBehind 8 = .ok (.if_icmp .ge 20, 3) := by decide +kernel
theorem dX0_hurtBehind_11 : decode cX0_hurtBehind 11 = .ok (.iload_n 3, 1) := by decide +kernel
theorem dX0_hurtBehind_12 : decode cX0_hurtBehind 12 = .ok (.aload_n 0, 1) := by decide +kernel
theorem dX0_hurtBehind_13 : decode cX0_hurtBehind 13 = .ok (.aload_n 1, 1) := by decide +kernel
theorem dX0_hurtBehind_14 : decode cX0_hurtBehind 14 = .ok (.iload 4, 2) := by decide +kernel
theorem dX0_hurtBehind_16 : decode cX0_hurtBehind 16 = .ok (.iaload, 1) := by decide +kernel
theorem dX0_hurtBehind_17 : decode cX0_hurtBehind 17 = .ok (.invokevirtual 69, 3) := by decide +kernel
theorem dX0_hurtBehind_20 : decode cX0_hurtBehind 20 = .ok (.iadd, 1) := by decide +kernel
theorem dX0_hurtBehind_21 : decode cX0_hurtBehind 21 = .ok (.istore_n 3, 1) := by decide +kernel
theorem dX0_hurtBehind_22 : decode cX0_hurtBehind 22 = .ok (.iinc 4 1, 3) := by decide +kernel
theorem dX0_hurtBehind_25 : decode cX0_hurtBehind 25 = .ok (.goto (-20), 3) := by decide +kernel
theorem dX0_hurtBehind_28 : decode cX0_hurtBehind 28 = .ok (.iload_n 3, 1) := by decide +kernel
theorem dX0_hurtBehind_29 : decode cX0_hurtBehind 29 = .ok (.ireturn, 1) := by decide +kernel
theorem dX1_init_0 : decode cX1_init 0 = .ok (.aload_n 0, 1) := by decide +kernel
theorem dX1_init_1 : decode cX1_init 1 = .ok (.invokespecial 3, 3) := by decide +kernel
theorem dX1_init_4 : decode cX1_init 4 = .ok (.aload_n 0, 1) := by decide +kernel
theorem dX1_init_5 : decode cX1_init 5 = .ok (.iconst 5, 1) := by decide +kernel
theorem dX1_init_6 : decode cX1_init 6 = .ok (.newarray .int, 2) := by decide +kernel
theorem dX1_init_8 : decode cX1_init 8 = .ok (.putfield 9, 3) := by decide +kernel
theorem dX1_init_11 : decode cX1_init 11 = .ok (.aload_n 0, 1) := by decide +kernel
theorem dX1_init_12 : decode cX1_init 12 = .ok (.iconst 5, 1) := by decide +kernel
theorem dX1_init_13 : decode cX1_init 13 = .ok (.newarray .int, 2) := by decide +kernel
theorem dX1_init_15 : decode cX1_init 15 = .ok (.putfield 15, 3) := by decide +kernel
theorem dX1_init_18 : decode cX1_init 18 = .ok (.aload_n 0, 1) := by decide +kernel
theorem dX1_init_19 : decode cX1_init 19 = .ok (.iconst 5, 1) := by decide +kernel
theorem dX1_init_20 : decode cX1_init 20 = .ok (.newarray .int, 2) := by decide +kernel
theorem dX1_init_22 : decode cX1_init 22 = .ok (.putfield 18, 3) := by decide +kernel
theorem dX1_init_25 : decode cX1_init 25 = .ok (.aload_n 0, 1) := by decide +kernel
theorem dX1_init_26 : decode cX1_init 26 = .ok (.sipush 240, 3) := by decide +kernel
theorem dX1_init_29 : decode cX1_init 29 = .ok (.newarray .int, 2) := by decide +kernel
theorem dX1_init_31 : decode cX1_init 31 = .ok (.putfield 21, 3) := by decide +kernel
theorem dX1_init_34 : decode cX1_init 34 = .ok (.return_, 1) := by decide +kernel
set_option maxRecDepth 20000 in
theorem ggX1_seekWorst_X6_fillByOrder : GoodIn wsX1_seekWorst wsX6_fillByOrder := goodIn_r _ [10] (by decide +kernel) (by decide +kernel)
set_option maxRecDepth 20000 in
theorem gX1_seekWorst_X6_fillByOrder_n24 : GoodIn wsX1_seekWorst (wsX6_fillByOrder) := ggX1_seekWorst_X6_fillByOrder
set_option maxRecDepth 20000 in
theorem ggX1_seekWorst_X6_factorial : GoodIn wsX1_seekWorst wsX6_factorial := goodIn_r _ [12] (by decide +kernel) (by decide +kernel)
set_option maxRecDepth 20000 in
theorem gX1_seekWorst_X6_factorial_n37 : GoodIn wsX1_seekWorst (wsX6_factorial) := ggX1_seekWorst_X6_factorial
set_option maxRecDepth 20000 in
theorem ggX1_seekWorst_X0_metOn : GoodIn wsX1_seekWorst wsX0_metOn := goodIn_r _ [16, 17, 18, 19, 20, 21, 14, 22, 23, 24, 25, 26, 43, 44, 45, 46, 47, 48, 49, 50, 51, 52] (by decide +kernel) (by decide +kernel)
set_option maxRecDepth 20000 in
theorem gX1_seekWorst_X0_metOn_n41 : GoodIn wsX1_seekWorst (wsX0_metOn) := ggX1_seekWorst_X0_metOn
set_option maxRecDepth 20000 in
theorem ggX1_seekWorst_X0_hurtBehind : GoodIn wsX1_seekWorst wsX0_hurtBehind := goodIn_r _ [29, 19, 20, 21, 14, 22, 23, 24, 25, 26, 43, 44, 45, 46, 47, 48, 49, 50, 51, 52] (by decide +kernel) (by decide +kernel)
set_option maxRecDepth 20000 in
theorem gX1_seekWorst_X0_hurtBehind_n45 : GoodIn wsX1_seekWorst (wsX0_hurtBehind) := ggX1_seekWorst_X0_hurtBehind
set_option maxRecDepth 20000 in
theorem ggX1_seekWorst_X1_stepOn : GoodIn wsX1_seekWorst wsX1_stepOn := goodIn_r _ [34, 1, 35, 9, 36, 37, 38, 39, 40, 41, 42] (by decide +kernel) (by decide +kernel)
set_option maxRecDepth 20000 in
theorem gX1_seekWorst_X1_stepOn : GoodIn wsX1_seekWorst (wsV RX1 55 RX1 yX1_stepOn wsX1_stepOn) := goodIn_app (goodIn_of _ (by decide +kernel)) ggX1_seekWorst_X1_stepOn
theorem dX1_seekWorst_0 : decode cX1_seekWorst 0 = .ok (.aload_n 0, 1) := by decide +kernel
theorem dX1_seekWorst_1 : decode cX1_seekWorst 1 = .ok (.getfield 9, 3) := by decide +kernel
theorem dX1_seekWorst_4 : decode cX1_seekWorst 4 = .ok (.invokestatic 24, 3) := by decide +kernel
theorem dX1_seekWorst_7 : decode cX1_seekWorst 7 = .ok (.aload_n 0, 1) := by decide +kernel
theorem dX1_seekWorst_8 : decode cX1_seekWorst 8 = .ok (.iconst (-1), 1) := by decide +kernel
theorem dX1_seekWorst_9 : decode cX1_seekWorst 9 = .ok (.putfield 28, 3) := by decide +kernel
theorem dX1_seekWorst_12 : decode cX1_seekWorst 12 = .ok (.aload_n 1, 1) := by decide +kernel
theorem dX1_seekWorst_13 : decode cX1_seekWorst 13 = .ok (.getfield 32, 3) := by decide +kernel
theorem dX1_seekWorst_16 : decode cX1_seekWorst 16 = .ok (.invokestatic 37, 3) := by decide +kernel
theorem dX1_seekWorst_19 : decode cX1_seekWorst 19 = .ok (.istore_n 2, 1) := by decide +kernel
theorem dX1_seekWorst_20 : decode cX1_seekWorst 20 = .ok (.iconst 0, 1) := by decide +kernel
theorem dX1_seekWorst_21 : decode cX1_seekWorst 21 = .ok (.istore_n 3, 1) := by decide +kernel
theorem dX1_seekWorst_22 : decode cX1_seekWorst 22 = .ok (.iload_n 3, 1) := by decide +kernel
theorem dX1_seekWorst_23 : decode cX1_seekWorst 23 = .ok (.iload_n 2, 1) := by decide +kernel
theorem dX1_seekWorst_24 : decode cX1_seekWorst 24 = .ok (.if_icmp .ge 64, 3) := by decide +kernel
theorem dX1_seekWorst_27 : decode cX1_seekWorst 27 = .ok (.aload_n 1, 1) := by decide +kernel
theorem dX1_seekWorst_28 : decode cX1_seekWorst 28 = .ok (.aload_n 0, 1) := by decide +kernel
theorem dX1_seekWorst_29 : decode cX1_seekWorst 29 = .ok (.getfield 9, 3) := by decide +kernel
theorem dX1_seekWorst_32 : decode cX1_seekWorst 32 = .ok (.aload_n 1, 1) := by decide +kernel
theorem dX1_seekWorst_33 : decode cX1_seekWorst 33 = .ok (.aload_n 0, 1) := by decide +kernel
theorem dX1_seekWorst_34 : decode cX1_seekWorst 34 = .ok (.getfield 9, 3) := by decide +kernel
theorem dX1_seekWorst_37 : decode cX1_seekWorst 37 = .ok (.invokevirtual 41, 3) := by decide +kernel
theorem dX1_seekWorst_40 : decode cX1_seekWorst 40 = .ok (.invokevirtual 45, 3) := by decide +kernel
theorem dX1_seekWorst_43 : decode cX1_seekWorst 43 = .ok (.istore 4, 2) := by decide +kernel
theorem dX1_seekWorst_45 : decode cX1_seekWorst 45 = .ok (.iload 4, 2) := by decide +kernel
theorem dX1_seekWorst_47 : decode cX1_seekWorst 47 = .ok (.aload_n 0, 1) := by decide +kernel
theorem dX1_seekWorst_48 : decode cX1_seekWorst 48 = .ok (.getfield 28, 3) := by decide +kernel
theorem dX1_seekWorst_51 : decode cX1_seekWorst 51 = .ok (.if_icmp .le 23, 3) := by decide +kernel
theorem dX1_seekWorst_54 : decode cX1_seekWorst 54 = .ok (.aload_n 0, 1) := by decide +kernel
theorem dX1_seekWorst_55 : decode cX1_seekWorst 55 = .ok (.iload 4, 2) := by decide +kernel
theorem dX1_seekWorst_57 : decode cX1_seekWorst 57 = .ok (.putfield 28, 3) := by decide +kernel
theorem dX1_seekWorst_60 : decode cX1_seekWorst 60 = .ok (.aload_n 0, 1) := by decide +kernel
theorem dX1_seekWorst_61 : decode cX1_seekWorst 61 = .ok (.getfield 9, 3) := by decide +kernel
theorem dX1_seekWorst_64 : decode cX1_seekWorst 64 = .ok (.iconst 0, 1) := by decide +kernel
theorem dX1_seekWorst_65 : decode cX1_seekWorst 65 = .ok (.aload_n 0, 1) := by decide +kernel
theorem dX1_seekWorst_66 : decode cX1_seekWorst 66 = .ok (.getfield 15, 3) := by decide +kernel
theorem dX1_seekWorst_69 : decode cX1_seekWorst 69 = .ok (.iconst 0, 1) := by decide +kernel
theorem dX1_seekWorst_70 : decode cX1_seekWorst 70 = .ok (.iconst 5, 1) := by decide +kernel
theorem dX1_seekWorst_71 : decode cX1_seekWorst 71 = .ok (.invokestatic 49, 3) := by decide +kernel
theorem dX1_seekWorst_74 : decode cX1_seekWorst 74 = .ok (.aload_n 0, 1) := by decide +kernel
theorem dX1_seekWorst_75 : decode cX1_seekWorst 75 = .ok (.aload_n 1, 1) := by decide +kernel
theorem dX1_seekWorst_76 : decode cX1_seekWorst 76 = .ok (.getfield 32, 3) := by decide +kernel
theorem dX1_seekWorst_79 : decode cX1_seekWorst 79 = .ok (.invokevirtual 55, 3) := by decide +kernel
theorem dX1_seekWorst_82 : decode cX1_seekWorst 82 = .ok (.iinc 3 1, 3) := by decide +kernel
theorem dX1_seekWorst_85 : decode cX1_seekWorst 85 = .ok (.goto (-63), 3) := by decide +kernel
theorem dX1_seekWorst_88 : decode cX1_seekWorst 88 = .ok (.return_, 1) := by decide +kernel
set_option maxRecDepth 20000 in
theorem ggX1_seekFitting_X6_fillByOrder : GoodIn wsX1_seekFitting wsX6_fillByOrder := goodIn_r _ [7] (by decide +kernel) (by decide +kernel)
set_option maxRecDepth 20000 in
theorem gX1_seekFitting_X6_fillByOrder_n24 : GoodIn wsX1_seekFitting (wsX6_fillByOrder) := ggX1_seekFitting_X6_fillByOrder
set_option maxRecDepth 20000 in
theorem ggX1_seekFitting_X6_factorial : GoodIn wsX1_seekFitting wsX6_factorial := goodIn_r _ [9] (by decide +kernel) (by decide +kernel)
set_option maxRecDepth 20000 in
theorem gX1_seekFitting_X6_factorial_n37 : GoodIn wsX1_seekFitting (wsX6_factorial) := ggX1_seekFitting_X6_factorial
set_option maxRecDepth 20000 in
theorem ggX1_seekFitting_X1_isAsSeen : GoodIn wsX1_seekFitting wsX1_isAsSeen := goodIn_r _ [14, 1, 15, 16, 17, 18, 19, 20, 21, 22, 23, 24, 25, 26, 58, 59, 60, 48, 49, 50, 51, 52, 53, 54, 55, 56, 57, 42, 43, 44, 45, 46, 47] (by decide +kernel) (by decide +kernel)
set_option maxRecDepth 20000 in
theorem gX1_seekFitting_X1_isAsSeen : GoodIn wsX1_seekFitting (wsV RX1 62 RX1 yX1_isAsSeen wsX1_isAsSeen) := goodIn_app (goodIn_of _ (by decide +kernel)) ggX1_seekFitting_X1_isAsSeen
set_option maxRecDepth 20000 in
theorem ggX1_seekFitting_X1_enter : GoodIn wsX1_seekFitting wsX1_enter := goodIn_r _ [30, 2, 1, 31, 32, 33, 34, 35, 3, 4, 20, 16, 21, 22, 23, 24, 25, 26, 42, 43, 44, 45, 46, 47, 48, 49, 50, 51, 52, 53, 54, 55, 56, 57] (by decide +kernel) (by decide +kernel)
set_option maxRecDepth 20000 in
theorem gX1_seekFitting_X1_enter : GoodIn wsX1_seekFitting (wsV RX1 66 RX1 yX1_enter wsX1_enter) := goodIn_app (goodIn_of _ (by decide +kernel)) ggX1_seekFitting_X1_enter
set_option maxRecDepth 20000 in
theorem ggX1_seekFitting_X1_stepOn : GoodIn wsX1_seekFitting wsX1_stepOn := goodIn_r _ [39, 1, 40, 6, 41, 42, 43, 44, 45, 46, 47] (by decide +kernel) (by decide +kernel)
set_option maxRecDepth 20000 in
theorem gX1_seekFitting_X1_stepOn : GoodIn wsX1_seekFitting (wsV RX1 55 RX1 yX1_stepOn wsX1_stepOn) := goodIn_app (goodIn_of _ (by decide +kernel)) ggX1_seekFitting_X1_stepOn
theorem dX1_seekFitting_0 : decode cX1_seekFitting 0 = .ok (.aload_n 0, 1) := by decide +kernel
theorem dX1_seekFitting_1 : decode cX1_seekFitting 1 = .ok (.getfield 9, 3) := by decide +kernel
theorem dX1_seekFitting_4 : decode cX1_seekFitting 4 = .ok (.invokestatic 24, 3) := by decide +kernel
theorem dX1_seekFitting_7 : decode cX1_seekFitting 7 = .ok (.aload_n 0, 1) := by decide +kernel
theorem dX1_seekFitting_8 : decode cX1_seekFitting 8 = .ok (.iconst 0, 1) := by decide +kernel
theorem dX1_seekFitting_9 : decode cX1_seekFitting 9 = .ok (.putfield 59, 3) := by decide +kernel
theorem dX1_seekFitting_12 : decode cX1_seekFitting 12 = .ok (.iconst 0, 1) := by decide +kernel
theorem dX1_seekFitting_13 : decode cX1_seekFitting 13 = .ok (.istore_n 3, 1) := by decide +kernel
theorem dX1_seekFitting_14 : decode cX1_seekFitting 14 = .ok (.iload_n 3, 1) := by decide +kernel
theorem dX1_seekFitting_15 : decode cX1_seekFitting 15 = .ok (.iconst 5, 1) := by decide +kernel
theorem dX1_seekFitting_16 : decode cX1_seekFitting 16 = .ok (.if_icmp .ge 16, 3) := by decide +kernel
theorem dX1_seekFitting_19 : decode cX1_seekFitting 19 = .ok (.aload_n 0, 1) := by decide +kernel
theorem dX1_seekFitting_20 : decode cX1_seekFitting 20 = .ok (.getfield 18, 3) := by decide +kernel
theorem dX1_seekFitting_23 : decode cX1_seekFitting 23 = .ok (.iload_n 3, 1) := by decide +kernel
theorem dX1_seekFitting_24 : decode cX1_seekFitting 24 = .ok (.iconst 0, 1) := by decide +kernel
theorem dX1_seekFitting_25 : decode cX1_seekFitting 25 = .ok (.iastore, 1) := by decide +kernel
theorem dX1_seekFitting_26 : decode cX1_seekFitting 26 = .ok (.iinc 3 1, 3) := by decide +kernel
theorem dX1_seekFitting_29 : decode cX1_seekFitting 29 = .ok (.goto (-15), 3) := by decide +kernel
theorem dX1_seekFitting_32 : decode cX1_seekFitting 32 = .ok (.iconst 0, 1) := by decide +kernel
theorem dX1_seekFitting_33 : decode cX1_seekFitting 33 = .ok (.istore_n 3, 1) := by decide +kernel
theorem dX1_seekFitting_34 : decode cX1_seekFitting 34 = .ok (.iload_n 3, 1) := by decide +kernel
theorem dX1_seekFitting_35 : decode cX1_seekFitting 35 = .ok (.aload_n 0, 1) := by decide +kernel
theorem dX1_seekFitting_36 : decode cX1_seekFitting 36 = .ok (.getfield 21, 3) := by decide +kernel
theorem dX1_seekFitting_39 : decode cX1_seekFitting 39 = .ok (.arraylength, 1) := by decide +kernel
theorem dX1_seekFitting_40 : decode cX1_seekFitting 40 = .ok (.if_icmp .ge 16, 3) := by decide +kernel
theorem dX1_seekFitting_43 : decode cX1_seekFitting 43 = .ok (.aload_n 0, 1) := by decide +kernel
theorem dX1_seekFitting_44 : decode cX1_seekFitting 44 = .ok (.getfield 21, 3) := by decide +kernel
theorem dX1_seekFitting_47 : decode cX1_seekFitting 47 = .ok (.iload_n 3, 1) := by decide +kernel
theorem dX1_seekFitting_48 : decode cX1_seekFitting 48 = .ok (.iconst 0, 1) := by decide +kernel
theorem dX1_seekFitting_49 : decode cX1_seekFitting 49 = .ok (.iastore, 1) := by decide +kernel
theorem dX1_seekFitting_50 : decode cX1_seekFitting 50 = .ok (.iinc 3 1, 3) := by decide +kernel
theorem dX1_seekFitting_53 : decode cX1_seekFitting 53 = .ok (.goto (-19), 3) := by decide +kernel
theorem dX1_seekFitting_56 : decode cX1_seekFitting 56 = .ok (.aload_n 1, 1) := by decide +kernel
theorem dX1_seekFitting_57 : decode cX1_seekFitting 57 = .ok (.getfield 32, 3) := by decide +kernel
theorem dX1_seekFitting_60 : decode cX1_seekFitting 60 = .ok (.invokestatic 37, 3) := by decide +kernel
theorem dX1_seekFitting_63 : decode cX1_seekFitting 63 = .ok (.istore_n 3, 1) := by decide +kernel
theorem dX1_seekFitting_64 : decode cX1_seekFitting 64 = .ok (.iconst 0, 1) := by decide +kernel
theorem dX1_seekFitting_65 : decode cX1_seekFitting 65 = .ok (.istore 4, 2) := by decide +kernel
theorem dX1_seekFitting_67 : decode cX1_seekFitting 67 = .ok (.iload 4, 2) := by decide +kernel
theorem dX1_seekFitting_69 : decode cX1_seekFitting 69 = .ok (.iload_n 3, 1) := by decide +kernel
theorem dX1_seekFitting_70 : decode cX1_seekFitting 70 = .ok (.if_icmp .ge 31, 3) := by decide +kernel
theorem dX1_seekFitting_73 : decode cX1_seekFitting 73 = .ok (.aload_n 0, 1) := by decide +kernel
theorem dX1_seekFitting_74 : decode cX1_seekFitting 74 = .ok (.aload_n 1, 1) := by decide +kernel
theorem dX1_seekFitting_75 : decode cX1_seekFitting 75 = .ok (.aload_n 2, 1) := by decide +kernel
theorem dX1_seekFitting_76 : decode cX1_seekFitting 76 = .ok (.invokevirtual 62, 3) := by decide +kernel
theorem dX1_seekFitting_79 : decode cX1_seekFitting 79 = .ok (.ifCond .eq 8, 3) := by decide +kernel
theorem dX1_seekFitting_82 : decode cX1_seekFitting 82 = .ok (.aload_n 0, 1) := by decide +kernel
theorem dX1_seekFitting_83 : decode cX1_seekFitting 83 = .ok (.aload_n 1, 1) := by decide +kernel
theorem dX1_seekFitting_84 : decode cX1_seekFitting 84 = .ok (.invokevirtual 66, 3) := by decide +kernel
theorem dX1_seekFitting_87 : decode cX1_seekFitting 87 = .ok (.aload_n 0, 1) := by decide +kernel
theorem dX1_seekFitting_88 : decode cX1_seekFitting 88 = .ok (.aload_n 1, 1) := by decide +kernel
theorem dX1_seekFitting_89 : decode cX1_seekFitting 89 = .ok (.getfield 32, 3) := by decide +kernel
theorem dX1_seekFitting_92 : decode cX1_seekFitting 92 = .ok (.invokevirtual 55, 3) := by decide +kernel
theorem dX1_seekFitting_95 : decode cX1_seekFitting 95 = .ok (.iinc 4 1, 3) := by decide +kernel
theorem dX1_seekFitting_98 : decode cX1_seekFitting 98 = .ok (.goto (-31), 3) := by decide +kernel
theorem dX1_seekFitting_101 : decode cX1_seekFitting 101 = .ok (.return_, 1) := by decide +kernel
set_option maxRecDepth 20000 in
theorem ggX1_isAsSeen_X0_hurtBehind : GoodIn wsX1_isAsSeen wsX0_hurtBehind := goodIn_r _ [5, 6, 7, 8, 3, 9, 10, 11, 12, 13, 17, 18, 19, 20, 21, 22, 23, 24, 25, 26] (by decide +kernel) (by decide +kernel)
set_option maxRecDepth 20000 in
theorem gX1_isAsSeen_X0_hurtBehind_n45 : GoodIn wsX1_isAsSeen (wsX0_hurtBehind) := ggX1_isAsSeen_X0_hurtBehind
theorem dX1_isAsSeen_0 : decode cX1_isAsSeen 0 = .ok (.iconst 0, 1) := by decide +kernel
theorem dX1_isAsSeen_1 : decode cX1_isAsSeen 1 = .ok (.istore_n 3, 1) := by decide +kernel
theorem dX1_isAsSeen_2 : decode cX1_isAsSeen 2 = .ok (.iload_n 3, 1) := by decide +kernel
theorem dX1_isAsSeen_3 : decode cX1_isAsSeen 3 = .ok (.aload_n 2, 1) := by decide +kernel
theorem dX1_isAsSeen_4 : decode cX1_isAsSeen 4 = .ok (.getfield 70, 3) := by decide +kernel
theorem dX1_isAsSeen_7 : decode cX1_isAsSeen 7 = .ok (.if_icmp .ge 47, 3) := by decide +kernel
theorem dX1_isAsSeen_10 : decode cX1_isAsSeen 10 = .ok (.aload_n 2, 1) := by decide +kernel
theorem dX1_isAsSeen_11 : decode cX1_isAsSeen 11 = .ok (.getfield 75, 3) := by decide +kernel
theorem dX1_isAsSeen_14 : decode cX1_isAsSeen 14 = .ok (.iload_n 3, 1) := by decide +kernel
theorem dX1_isAsSeen_15 : decode cX1_isAsSeen 15 = .ok (.iaload, 1) := by decide +kernel
theorem dX1_isAsSeen_16 : decode cX1_isAsSeen 16 = .ok (.istore 4, 2) := by decide +kernel
theorem dX1_isAsSeen_18 : decode cX1_isAsSeen 18 = .ok (.iload 4, 2) := by decide +kernel
theorem dX1_isAsSeen_20 : decode cX1_isAsSeen 20 = .ok (.aload_n 1, 1) := by decide +kernel
theorem dX1_isAsSeen_21 : decode cX1_isAsSeen 21 = .ok (.getfield 32, 3) := by decide +kernel
theorem dX1_isAsSeen_24 : decode cX1_isAsSeen 24 = .ok (.if_icmp .gt 22, 3) := by decide +kernel
theorem dX1_isAsSeen_27 : decode cX1_isAsSeen 27 = .ok (.aload_n 1, 1) := by decide +kernel
theorem dX1_isAsSeen_28 : decode cX1_isAsSeen 28 = .ok (.aload_n 0, 1) := by decide +kernel
theorem dX1_isAsSeen_29 : decode cX1_isAsSeen 29 = .ok (.getfield 9, 3) := by decide +kernel
theorem dX1_isAsSeen_32 : decode cX1_isAsSeen 32 = .ok (.iload 4, 2) := by decide +kernel
theorem dX1_isAsSeen_34 : decode cX1_isAsSeen 34 = .ok (.invokevirtual 45, 3) := by decide +kernel
theorem dX1_isAsSeen_37 : decode cX1_isAsSeen 37 = .ok (.aload_n 2, 1) := by decide +kernel
theorem dX1_isAsSeen_38 : decode cX1_isAsSeen 38 = .ok (.getfield 78, 3) := by decide +kernel
theorem dX1_isAsSeen_41 : decode cX1_isAsSeen 41 = .ok (.iload_n 3, 1) := by decide +kernel
theorem dX1_isAsSeen_42 : decode cX1_isAsSeen 42 = .ok (.iaload, 1) := by decide +kernel
theorem dX1_isAsSeen_43 : decode cX1_isAsSeen 43 = .ok (.if_icmp .eq 5, 3) := by decide +kernel
theorem dX1_isAsSeen_46 : decode cX1_isAsSeen 46 = .ok (.iconst 0, 1) := by decide +kernel
theorem dX1_isAsSeen_47 : decode cX1_isAsSeen 47 = .ok (.ireturn, 1) := by decide +kernel
theorem dX1_isAsSeen_48 : decode cX1_isAsSeen 48 = .ok (.iinc 3 1, 3) := by decide +kernel
theorem dX1_isAsSeen_51 : decode cX1_isAsSeen 51 = .ok (.goto (-49), 3) := by decide +kernel
theorem dX1_isAsSeen_54 : decode cX1_isAsSeen 54 = .ok (.iconst 1, 1) := by decide +kernel
theorem dX1_isAsSeen_55 : decode cX1_isAsSeen 55 = .ok (.ireturn, 1) := by decide +kernel
set_option maxRecDepth 20000 in
theorem ggX1_enter_X0_hurts : GoodIn wsX1_enter wsX0_hurts := goodIn_r _ [13, 14, 15, 16, 11, 17, 24, 25, 26, 27, 28, 29, 30, 31, 32, 33] (by decide +kernel) (by decide +kernel)
