/-! ===== BEGIN words of one list among another's, by their places ===== -/
theorem goodIn_r {big : List Cond} (ws : List Cond) (ps : List Nat) (hp : ws = ps.filterMap (fun i => big[i]?)) (h : ws.all goodWord = true) : GoodIn big ws := by
  intro w hw
  have h1 := List.all_eq_true.mp h w hw
  rw [hp] at hw
  obtain ⟨i, -, hi⟩ := List.mem_filterMap.mp hw
  have hm : w ∈ big := by first | exact List.mem_of_getElem? hi | exact List.getElem?_mem hi
  exact ⟨hm, good_of_word h1⟩
theorem goodIn_app {big a b : List Cond} (ha : GoodIn big a) (hb : GoodIn big b) : GoodIn big (a ++ b) := fun w h => (List.mem_append.mp h).elim (ha w) (hb w)
theorem goodIn_ca {big a b : List Cond} {c : Cond} (ha : GoodIn big (c :: a)) (hb : GoodIn big b) : GoodIn big (c :: (a ++ b)) := fun w h => (List.mem_cons.mp h).elim (fun e => ha w (List.mem_cons.mpr (Or.inl e))) (fun h => (List.mem_append.mp h).elim (fun h => ha w (List.mem_cons.mpr (Or.inr h))) (hb w))
theorem goodIn_sub {big ws : List Cond} (hm : ∀ w ∈ ws, w ∈ big) (h : ws.all goodWord = true) : GoodIn big ws := fun w hw => ⟨hm w hw, good_of_word (List.all_eq_true.mp h w hw)⟩
/-! ===== END ===== -/

/-! ===== BEGIN printed: names, fields, word lists, decode rows ===== -/
def RX0 : String := "SpeaksForTheChair$House"
def TX0 : u_T := fun k => match k with
  | 0 => ("SpeaksForTheChair$House", "pieces", "I", false)
  | 1 => ("SpeaksForTheChair$House", "kinds", "[I", true)
  | 2 => ("SpeaksForTheChair$House", "prices", "[I", true)
  | 3 => ("SpeaksForTheChair$House", "roomsAtFirst", "I", false)
  | 4 => ("SpeaksForTheChair$House", "deeds", "I", false)
  | 5 => ("SpeaksForTheChair$House", "persons", "[I", true)
  | 6 => ("SpeaksForTheChair$House", "places", "[I", true)
  | 7 => ("SpeaksForTheChair$House", "hours", "[I", true)
  | 8 => ("SpeaksForTheChair$House", "weights", "[I", true)
  | 9 => ("SpeaksForTheChair$House", "coins", "I", false)
  | 10 => ("SpeaksForTheChair$House", "law", "I", false)
  | _ => ("SpeaksForTheChair$House", "numbers", "[I", true)
def tyX0 : Nat → FieldType := fun k => match k with
  | 0 => .int
  | 1 => .array .int
  | 2 => .array .int
  | 3 => .int
  | 4 => .int
  | 5 => .array .int
  | 6 => .array .int
  | 7 => .array .int
  | 8 => .array .int
  | 9 => .int
  | 10 => .int
  | _ => .array .int
abbrev wsX00 : List Cond := u_ws RX0 TX0 12
theorem nmX0 : ∀ a, a < 12 → ∀ b, b < 12 → a ≠ b → (TX0 a).2.1 ≠ (TX0 b).2.1 := by decide +kernel
theorem tyX0_ok : ∀ k, k < 12 → parseFieldDescriptor (TX0 k).2.2.1 = some (tyX0 k) := by decide +kernel
abbrev cX0_init : ByteArray := prog_2_method_1_code
def yX0_init : MethodName := ⟨RX0, "<init>", "()V"⟩
abbrev cX0_readFrom : ByteArray := prog_2_method_2_code
def yX0_readFrom : MethodName := ⟨RX0, "readFrom", "(LSpeaksForTheChair$Page;)I"⟩
abbrev cX0_readItem : ByteArray := prog_2_method_3_code
def yX0_readItem : MethodName := ⟨RX0, "readItem", "(LSpeaksForTheChair$Page;I)I"⟩
abbrev cX0_numbersBehind : ByteArray := prog_2_method_4_code
def yX0_numbersBehind : MethodName := ⟨RX0, "numbersBehind", "(I)I"⟩
abbrev cX0_isFigure : ByteArray := prog_2_method_5_code
def yX0_isFigure : MethodName := ⟨RX0, "isFigure", "(I)Z"⟩
abbrev cX0_figuresAt : ByteArray := prog_2_method_6_code
def yX0_figuresAt : MethodName := ⟨RX0, "figuresAt", "(LSpeaksForTheChair$Page;I)I"⟩
abbrev cX0_numberAt : ByteArray := prog_2_method_7_code
def yX0_numberAt : MethodName := ⟨RX0, "numberAt", "(LSpeaksForTheChair$Page;II)I"⟩
abbrev cX0_takeItem : ByteArray := prog_2_method_8_code
def yX0_takeItem : MethodName := ⟨RX0, "takeItem", "(I)Z"⟩
abbrev cX0_takePiece : ByteArray := prog_2_method_9_code
def yX0_takePiece : MethodName := ⟨RX0, "takePiece", "()Z"⟩
abbrev cX0_takeDeed : ByteArray := prog_2_method_10_code
def yX0_takeDeed : MethodName := ⟨RX0, "takeDeed", "()Z"⟩
abbrev cX0_takeCoins : ByteArray := prog_2_method_11_code
def yX0_takeCoins : MethodName := ⟨RX0, "takeCoins", "()Z"⟩
abbrev cX0_takeLaw : ByteArray := prog_2_method_12_code
def yX0_takeLaw : MethodName := ⟨RX0, "takeLaw", "()Z"⟩
abbrev cX0_forbids : ByteArray := prog_2_method_13_code
def yX0_forbids : MethodName := ⟨RX0, "forbids", "(I)Z"⟩
abbrev cX0_toldBy : ByteArray := prog_2_method_14_code
def yX0_toldBy : MethodName := ⟨RX0, "toldBy", "(II)I"⟩
abbrev cX0_wouldTell : ByteArray := prog_2_method_15_code
def yX0_wouldTell : MethodName := ⟨RX0, "wouldTell", "(IIIII)Z"⟩
abbrev cX0_laterOnes : ByteArray := prog_2_method_16_code
def yX0_laterOnes : MethodName := ⟨RX0, "laterOnes", "(III)I"⟩
abbrev cX0_deedsAsHeavyAs : ByteArray := prog_2_method_17_code
def yX0_deedsAsHeavyAs : MethodName := ⟨RX0, "deedsAsHeavyAs", "(I)I"⟩
abbrev cX0_deedsOf : ByteArray := prog_2_method_18_code
def yX0_deedsOf : MethodName := ⟨RX0, "deedsOf", "(I)I"⟩
abbrev cX0_weightOf : ByteArray := prog_2_method_19_code
def yX0_weightOf : MethodName := ⟨RX0, "weightOf", "(I)I"⟩
abbrev cX0_priceOf : ByteArray := prog_2_method_20_code
def yX0_priceOf : MethodName := ⟨RX0, "priceOf", "(I)I"⟩
def RX1 : String := "SpeaksForTheChair$Page"
def TX1 : u_T := fun k => match k with
  | 0 => ("SpeaksForTheChair$Page", "letters", "[C", true)
  | _ => ("SpeaksForTheChair$Page", "length", "I", false)
def tyX1 : Nat → FieldType := fun k => match k with
  | 0 => .array .char
  | _ => .int
abbrev wsX10 : List Cond := u_ws RX1 TX1 2
theorem nmX1 : ∀ a, a < 2 → ∀ b, b < 2 → a ≠ b → (TX1 a).2.1 ≠ (TX1 b).2.1 := by decide +kernel
theorem tyX1_ok : ∀ k, k < 2 → parseFieldDescriptor (TX1 k).2.2.1 = some (tyX1 k) := by decide +kernel
abbrev cX1_init : ByteArray := prog_3_method_1_code
def yX1_init : MethodName := ⟨RX1, "<init>", "()V"⟩
abbrev cX1_add : ByteArray := prog_3_method_2_code
def yX1_add : MethodName := ⟨RX1, "add", "(C)Z"⟩
abbrev cX1_clear : ByteArray := prog_3_method_3_code
def yX1_clear : MethodName := ⟨RX1, "clear", "()V"⟩
abbrev cX1_letterAt : ByteArray := prog_3_method_4_code
def yX1_letterAt : MethodName := ⟨RX1, "letterAt", "(I)I"⟩
def RX2 : String := "SpeaksForTheChair$Past"
def TX2 : u_T := fun k => match k with
  | 0 => ("SpeaksForTheChair$Past", "ring", "[J", true)
  | 1 => ("SpeaksForTheChair$Past", "next", "I", false)
  | _ => ("SpeaksForTheChair$Past", "depth", "I", false)
def tyX2 : Nat → FieldType := fun k => match k with
  | 0 => .array .long
  | 1 => .int
  | _ => .int
abbrev wsX20 : List Cond := u_ws RX2 TX2 3
theorem nmX2 : ∀ a, a < 3 → ∀ b, b < 3 → a ≠ b → (TX2 a).2.1 ≠ (TX2 b).2.1 := by decide +kernel
theorem tyX2_ok : ∀ k, k < 3 → parseFieldDescriptor (TX2 k).2.2.1 = some (tyX2 k) := by decide +kernel
abbrev cX2_init : ByteArray := prog_4_method_1_code
def yX2_init : MethodName := ⟨RX2, "<init>", "()V"⟩
abbrev cX2_push : ByteArray := prog_4_method_2_code
def yX2_push : MethodName := ⟨RX2, "push", "(J)V"⟩
abbrev cX2_pop : ByteArray := prog_4_method_3_code
def yX2_pop : MethodName := ⟨RX2, "pop", "()J"⟩
abbrev cX2_clear : ByteArray := prog_4_method_4_code
def yX2_clear : MethodName := ⟨RX2, "clear", "()V"⟩
def RX3 : String := "SpeaksForTheChair$Sightings"
def TX3 : u_T := fun k => match k with
  | 0 => ("SpeaksForTheChair$Sightings", "pieces", "[I", true)
  | 1 => ("SpeaksForTheChair$Sightings", "deeds", "[I", true)
  | 2 => ("SpeaksForTheChair$Sightings", "tells", "[Z", true)
  | _ => ("SpeaksForTheChair$Sightings", "length", "I", false)
def tyX3 : Nat → FieldType := fun k => match k with
  | 0 => .array .int
  | 1 => .array .int
  | 2 => .array .boolean
  | _ => .int
abbrev wsX30 : List Cond := u_ws RX3 TX3 4
theorem nmX3 : ∀ a, a < 4 → ∀ b, b < 4 → a ≠ b → (TX3 a).2.1 ≠ (TX3 b).2.1 := by decide +kernel
theorem tyX3_ok : ∀ k, k < 4 → parseFieldDescriptor (TX3 k).2.2.1 = some (tyX3 k) := by decide +kernel
abbrev cX3_init : ByteArray := prog_5_method_1_code
def yX3_init : MethodName := ⟨RX3, "<init>", "()V"⟩
abbrev cX3_add : ByteArray := prog_5_method_2_code
def yX3_add : MethodName := ⟨RX3, "add", "(IIZ)Z"⟩
abbrev cX3_clear : ByteArray := prog_5_method_3_code
def yX3_clear : MethodName := ⟨RX3, "clear", "()V"⟩
def RX4 : String := "SpeaksForTheChair$Standing"
def TX4 : u_T := fun k => match k with
  | 0 => ("SpeaksForTheChair$Standing", "rooms", "I", false)
  | 1 => ("SpeaksForTheChair$Standing", "bought", "I", false)
  | 2 => ("SpeaksForTheChair$Standing", "spoken", "I", false)
  | 3 => ("SpeaksForTheChair$Standing", "out", "I", false)
  | _ => ("SpeaksForTheChair$Standing", "coins", "I", false)
def tyX4 : Nat → FieldType := fun k => match k with
  | 0 => .int
  | 1 => .int
  | 2 => .int
  | 3 => .int
  | _ => .int
abbrev wsX40 : List Cond := u_ws RX4 TX4 5
theorem nmX4 : ∀ a, a < 5 → ∀ b, b < 5 → a ≠ b → (TX4 a).2.1 ≠ (TX4 b).2.1 := by decide +kernel
theorem tyX4_ok : ∀ k, k < 5 → parseFieldDescriptor (TX4 k).2.2.1 = some (tyX4 k) := by decide +kernel
abbrev cX4_init : ByteArray := prog_6_method_1_code
def yX4_init : MethodName := ⟨RX4, "<init>", "()V"⟩
abbrev cX4_begin : ByteArray := prog_6_method_2_code
def yX4_begin : MethodName := ⟨RX4, "begin", "(II)V"⟩
abbrev cX4_packed : ByteArray := prog_6_method_3_code
def yX4_packed : MethodName := ⟨RX4, "packed", "()J"⟩
abbrev cX4_unpack : ByteArray := prog_6_method_4_code
def yX4_unpack : MethodName := ⟨RX4, "unpack", "(J)V"⟩
abbrev cX4_roomOf : ByteArray := prog_6_method_5_code
def yX4_roomOf : MethodName := ⟨RX4, "roomOf", "(I)I"⟩
abbrev cX4_howIs : ByteArray := prog_6_method_6_code
def yX4_howIs : MethodName := ⟨RX4, "howIs", "(I)I"⟩
abbrev cX4_letSpeak : ByteArray := prog_6_method_7_code
def yX4_letSpeak : MethodName := ⟨RX4, "letSpeak", "(II)I"⟩
abbrev cX4_sell : ByteArray := prog_6_method_8_code
def yX4_sell : MethodName := ⟨RX4, "sell", "(II)V"⟩
abbrev cX4_move : ByteArray := prog_6_method_9_code
def yX4_move : MethodName := ⟨RX4, "move", "(II)V"⟩
def RX5 : String := "SpeaksForTheChair"
def TX5 : u_T := fun k => match k with
  | 0 => ("SpeaksForTheChair", "page", "LSpeaksForTheChair$Page;", true)
  | 1 => ("SpeaksForTheChair", "laid", "LSpeaksForTheChair$House;", false)
  | 2 => ("SpeaksForTheChair", "draft", "LSpeaksForTheChair$House;", false)
  | 3 => ("SpeaksForTheChair", "now", "LSpeaksForTheChair$Standing;", true)
  | 4 => ("SpeaksForTheChair", "trial", "LSpeaksForTheChair$Standing;", true)
  | 5 => ("SpeaksForTheChair", "past", "LSpeaksForTheChair$Past;", true)
  | 6 => ("SpeaksForTheChair", "sightings", "LSpeaksForTheChair$Sightings;", true)
  | 7 => ("SpeaksForTheChair", "kept", "[J", true)
  | 8 => ("SpeaksForTheChair", "keptCount", "I", false)
  | _ => ("SpeaksForTheChair", "told", "[I", true)
def tyX5 : Nat → FieldType := fun k => match k with
  | 0 => .object "SpeaksForTheChair$Page"
  | 1 => .object "SpeaksForTheChair$House"
  | 2 => .object "SpeaksForTheChair$House"
  | 3 => .object "SpeaksForTheChair$Standing"
  | 4 => .object "SpeaksForTheChair$Standing"
  | 5 => .object "SpeaksForTheChair$Past"
  | 6 => .object "SpeaksForTheChair$Sightings"
  | 7 => .array .long
  | 8 => .int
  | _ => .array .int
abbrev wsX50 : List Cond := u_ws RX5 TX5 10
theorem nmX5 : ∀ a, a < 10 → ∀ b, b < 10 → a ≠ b → (TX5 a).2.1 ≠ (TX5 b).2.1 := by decide +kernel
theorem tyX5_ok : ∀ k, k < 10 → parseFieldDescriptor (TX5 k).2.2.1 = some (tyX5 k) := by decide +kernel
abbrev cX5_init : ByteArray := prog_1_method_1_code
def yX5_init : MethodName := ⟨RX5, "<init>", "()V"⟩
abbrev cX5_write : ByteArray := prog_1_method_2_code
def yX5_write : MethodName := ⟨RX5, "write", "(I)I"⟩
abbrev cX5_wipe : ByteArray := prog_1_method_3_code
def yX5_wipe : MethodName := ⟨RX5, "wipe", "()I"⟩
abbrev cX5_fault : ByteArray := prog_1_method_4_code
def yX5_fault : MethodName := ⟨RX5, "fault", "()I"⟩
abbrev cX5_lay : ByteArray := prog_1_method_5_code
def yX5_lay : MethodName := ⟨RX5, "lay", "()I"⟩
abbrev cX5_piece : ByteArray := prog_1_method_6_code
def yX5_piece : MethodName := ⟨RX5, "piece", "(II)I"⟩
abbrev cX5_deed : ByteArray := prog_1_method_7_code
def yX5_deed : MethodName := ⟨RX5, "deed", "(II)I"⟩
abbrev cX5_speak : ByteArray := prog_1_method_8_code
def yX5_speak : MethodName := ⟨RX5, "speak", "(I)I"⟩
abbrev cX5_buy : ByteArray := prog_1_method_9_code
def yX5_buy : MethodName := ⟨RX5, "buy", "(I)I"⟩
abbrev cX5_carry : ByteArray := prog_1_method_10_code
def yX5_carry : MethodName := ⟨RX5, "carry", "(II)I"⟩
abbrev cX5_undo : ByteArray := prog_1_method_11_code
def yX5_undo : MethodName := ⟨RX5, "undo", "()I"⟩
abbrev cX5_hush : ByteArray := prog_1_method_12_code
def yX5_hush : MethodName := ⟨RX5, "hush", "(II)I"⟩
abbrev cX5_hushAll : ByteArray := prog_1_method_13_code
def yX5_hushAll : MethodName := ⟨RX5, "hushAll", "(II)I"⟩
abbrev cX5_hushOne : ByteArray := prog_1_method_14_code
def yX5_hushOne : MethodName := ⟨RX5, "hushOne", "(II)I"⟩
abbrev cX5_save : ByteArray := prog_1_method_15_code
def yX5_save : MethodName := ⟨RX5, "save", "(I)I"⟩
abbrev cX5_together : ByteArray := prog_1_method_16_code
def yX5_together : MethodName := ⟨RX5, "together", "(II)I"⟩
abbrev cX5_cover : ByteArray := prog_1_method_17_code
def yX5_cover : MethodName := ⟨RX5, "cover", "(I)I"⟩
abbrev cX5_safe : ByteArray := prog_1_method_18_code
def yX5_safe : MethodName := ⟨RX5, "safe", "(II)I"⟩
abbrev cX5_dealer : ByteArray := prog_1_method_19_code
def yX5_dealer : MethodName := ⟨RX5, "dealer", "(I)I"⟩
abbrev cX5_ruin : ByteArray := prog_1_method_20_code
def yX5_ruin : MethodName := ⟨RX5, "ruin", "(I)I"⟩
abbrev cX5_seen : ByteArray := prog_1_method_21_code
def yX5_seen : MethodName := ⟨RX5, "seen", "(III)I"⟩
abbrev cX5_forget : ByteArray := prog_1_method_22_code
def yX5_forget : MethodName := ⟨RX5, "forget", "()I"⟩
abbrev cX5_may : ByteArray := prog_1_method_23_code
def yX5_may : MethodName := ⟨RX5, "may", "(II)I"⟩
abbrev cX5_likely : ByteArray := prog_1_method_24_code
def yX5_likely : MethodName := ⟨RX5, "likely", "(III)I"⟩
abbrev cX5_sale : ByteArray := prog_1_method_25_code
def yX5_sale : MethodName := ⟨RX5, "sale", "(III)I"⟩
abbrev cX5_keep : ByteArray := prog_1_method_26_code
def yX5_keep : MethodName := ⟨RX5, "keep", "()I"⟩
abbrev cX5_back : ByteArray := prog_1_method_27_code
def yX5_back : MethodName := ⟨RX5, "back", "()I"⟩
abbrev cX5_count : ByteArray := prog_1_method_28_code
def yX5_count : MethodName := ⟨RX5, "count", "(I)I"⟩
abbrev cX5_isWithin : ByteArray := prog_1_method_29_code
def yX5_isWithin : MethodName := ⟨RX5, "isWithin", "(III)Z"⟩
abbrev cX5_isPerson : ByteArray := prog_1_method_30_code
def yX5_isPerson : MethodName := ⟨RX5, "isPerson", "(I)Z"⟩
abbrev cX5_isPiece : ByteArray := prog_1_method_31_code
def yX5_isPiece : MethodName := ⟨RX5, "isPiece", "(I)Z"⟩
abbrev cX5_isDeed : ByteArray := prog_1_method_32_code
def yX5_isDeed : MethodName := ⟨RX5, "isDeed", "(I)Z"⟩
abbrev cX5_hasComeOut : ByteArray := prog_1_method_33_code
def yX5_hasComeOut : MethodName := ⟨RX5, "hasComeOut", "(I)Z"⟩
abbrev cX5_isLoose : ByteArray := prog_1_method_34_code
def yX5_isLoose : MethodName := ⟨RX5, "isLoose", "(LSpeaksForTheChair$Standing;I)Z"⟩
abbrev cX5_canBeBought : ByteArray := prog_1_method_35_code
def yX5_canBeBought : MethodName := ⟨RX5, "canBeBought", "(LSpeaksForTheChair$Standing;I)Z"⟩
abbrev cX5_looseOnes : ByteArray := prog_1_method_36_code
def yX5_looseOnes : MethodName := ⟨RX5, "looseOnes", "()I"⟩
abbrev cX5_looseTellers : ByteArray := prog_1_method_37_code
def yX5_looseTellers : MethodName := ⟨RX5, "looseTellers", "(I)I"⟩
abbrev cX5_fillTold : ByteArray := prog_1_method_38_code
def yX5_fillTold : MethodName := ⟨RX5, "fillTold", "()V"⟩
abbrev cX5_toldBySet : ByteArray := prog_1_method_39_code
def yX5_toldBySet : MethodName := ⟨RX5, "toldBySet", "(I)I"⟩
abbrev cX5_weightLeft : ByteArray := prog_1_method_40_code
def yX5_weightLeft : MethodName := ⟨RX5, "weightLeft", "(I)I"⟩
abbrev cX5_silence : ByteArray := prog_1_method_41_code
def yX5_silence : MethodName := ⟨RX5, "silence", "(II)I"⟩
abbrev cX5_loudest : ByteArray := prog_1_method_42_code
def yX5_loudest : MethodName := ⟨RX5, "loudest", "(II)I"⟩
abbrev cX5_roomsThatMay : ByteArray := prog_1_method_43_code
def yX5_roomsThatMay : MethodName := ⟨RX5, "roomsThatMay", "(I)I"⟩
abbrev cX5_hoursThatMay : ByteArray := prog_1_method_44_code
def yX5_hoursThatMay : MethodName := ⟨RX5, "hoursThatMay", "(I)I"⟩
abbrev cX5_agreesWithSeen : ByteArray := prog_1_method_45_code
def yX5_agreesWithSeen : MethodName := ⟨RX5, "agreesWithSeen", "(III)Z"⟩
abbrev cX5_drawOf : ByteArray := prog_1_method_46_code
def yX5_drawOf : MethodName := ⟨RX5, "drawOf", "(II)I"⟩
abbrev cX5_dealOnce : ByteArray := prog_1_method_47_code
def yX5_dealOnce : MethodName := ⟨RX5, "dealOnce", "(I)V"⟩
def RX6 : String := "SpeaksForTheChairModel"
def TX6 : u_T := fun k => match k with
  | 0 => ("SpeaksForTheChairModel", "pieces", "I", false)
  | 1 => ("SpeaksForTheChairModel", "piece", "[I", true)
  | 2 => ("SpeaksForTheChairModel", "deeds", "I", false)
  | 3 => ("SpeaksForTheChairModel", "deed", "[I", true)
  | 4 => ("SpeaksForTheChairModel", "law", "I", false)
  | 5 => ("SpeaksForTheChairModel", "st", "[I", true)
  | 6 => ("SpeaksForTheChairModel", "acts", "I", false)
  | 7 => ("SpeaksForTheChairModel", "was", "[I", true)
  | 8 => ("SpeaksForTheChairModel", "keeps", "I", false)
  | 9 => ("SpeaksForTheChairModel", "kept", "[I", true)
  | 10 => ("SpeaksForTheChairModel", "seens", "I", false)
  | 11 => ("SpeaksForTheChairModel", "seen", "[I", true)
  | 12 => ("SpeaksForTheChairModel", "text", "[I", true)
  | 13 => ("SpeaksForTheChairModel", "texted", "I", false)
  | 14 => ("SpeaksForTheChairModel", "at", "I", false)
  | 15 => ("SpeaksForTheChairModel", "told", "[I", true)
  | 16 => ("SpeaksForTheChairModel", "readPieces", "I", false)
  | 17 => ("SpeaksForTheChairModel", "readPiece", "[I", true)
  | 18 => ("SpeaksForTheChairModel", "readRoom", "[I", true)
  | 19 => ("SpeaksForTheChairModel", "readDeeds", "I", false)
  | 20 => ("SpeaksForTheChairModel", "readDeed", "[I", true)
  | 21 => ("SpeaksForTheChairModel", "readCoins", "I", false)
  | 22 => ("SpeaksForTheChairModel", "readLaw", "I", false)
  | _ => ("SpeaksForTheChairModel", "now", "[I", true)
def tyX6 : Nat → FieldType := fun k => match k with
  | 0 => .int
  | 1 => .array .int
  | 2 => .int
  | 3 => .array .int
  | 4 => .int
  | 5 => .array .int
  | 6 => .int
  | 7 => .array .int
  | 8 => .int
  | 9 => .array .int
  | 10 => .int
  | 11 => .array .int
  | 12 => .array .int
  | 13 => .int
  | 14 => .int
  | 15 => .array .int
  | 16 => .int
  | 17 => .array .int
  | 18 => .array .int
  | 19 => .int
  | 20 => .array .int
  | 21 => .int
  | 22 => .int
  | _ => .array .int
abbrev wsX60 : List Cond := u_ws RX6 TX6 24
theorem nmX6 : ∀ a, a < 24 → ∀ b, b < 24 → a ≠ b → (TX6 a).2.1 ≠ (TX6 b).2.1 := by decide +kernel
theorem tyX6_ok : ∀ k, k < 24 → parseFieldDescriptor (TX6 k).2.2.1 = some (tyX6 k) := by decide +kernel
abbrev cX6_init : ByteArray := prog_8_method_1_code
def yX6_init : MethodName := ⟨RX6, "<init>", "()V"⟩
abbrev cX6_tellsPiece : ByteArray := prog_8_method_3_code
def yX6_tellsPiece : MethodName := ⟨RX6, "tellsPiece", "(III)V"⟩
abbrev cX6_tellsDeed : ByteArray := prog_8_method_4_code
def yX6_tellsDeed : MethodName := ⟨RX6, "tellsDeed", "(IIII)V"⟩
abbrev cX6_in : ByteArray := prog_8_method_5_code
def yX6_in : MethodName := ⟨RX6, "in", "(III)Z"⟩
abbrev cX6_has : ByteArray := prog_8_method_6_code
def yX6_has : MethodName := ⟨RX6, "has", "(II)Z"⟩
abbrev cX6_bits : ByteArray := prog_8_method_7_code
def yX6_bits : MethodName := ⟨RX6, "bits", "(I)I"⟩
abbrev cX6_isPiece : ByteArray := prog_8_method_8_code
def yX6_isPiece : MethodName := ⟨RX6, "isPiece", "(I)Z"⟩
abbrev cX6_isDeed : ByteArray := prog_8_method_9_code
def yX6_isDeed : MethodName := ⟨RX6, "isDeed", "(I)Z"⟩
abbrev cX6_write : ByteArray := prog_8_method_10_code
def yX6_write : MethodName := ⟨RX6, "write", "(I)I"⟩
abbrev cX6_wipe : ByteArray := prog_8_method_11_code
def yX6_wipe : MethodName := ⟨RX6, "wipe", "()I"⟩
abbrev cX6_letterAt : ByteArray := prog_8_method_12_code
def yX6_letterAt : MethodName := ⟨RX6, "letterAt", "(I)I"⟩
abbrev cX6_isFigure : ByteArray := prog_8_method_13_code
def yX6_isFigure : MethodName := ⟨RX6, "isFigure", "(I)Z"⟩
abbrev cX6_readNumbers : ByteArray := prog_8_method_14_code
def yX6_readNumbers : MethodName := ⟨RX6, "readNumbers", "(I)Z"⟩
abbrev cX6_isTold : ByteArray := prog_8_method_15_code
def yX6_isTold : MethodName := ⟨RX6, "isTold", "(III)Z"⟩
abbrev cX6_clearTold : ByteArray := prog_8_method_16_code
def yX6_clearTold : MethodName := ⟨RX6, "clearTold", "()V"⟩
abbrev cX6_readPieceOf : ByteArray := prog_8_method_17_code
def yX6_readPieceOf : MethodName := ⟨RX6, "readPieceOf", "()Z"⟩
abbrev cX6_readDeedOf : ByteArray := prog_8_method_18_code
def yX6_readDeedOf : MethodName := ⟨RX6, "readDeedOf", "()Z"⟩
abbrev cX6_readCoinsOf : ByteArray := prog_8_method_19_code
def yX6_readCoinsOf : MethodName := ⟨RX6, "readCoinsOf", "()Z"⟩
abbrev cX6_readLawOf : ByteArray := prog_8_method_20_code
def yX6_readLawOf : MethodName := ⟨RX6, "readLawOf", "()Z"⟩
abbrev cX6_readItem : ByteArray := prog_8_method_21_code
def yX6_readItem : MethodName := ⟨RX6, "readItem", "()Z"⟩
abbrev cX6_fault : ByteArray := prog_8_method_22_code
def yX6_fault : MethodName := ⟨RX6, "fault", "()I"⟩
abbrev cX6_lay : ByteArray := prog_8_method_23_code
def yX6_lay : MethodName := ⟨RX6, "lay", "()I"⟩
abbrev cX6_copies : ByteArray := prog_8_method_24_code
def yX6_copies : MethodName := ⟨RX6, "copies", "([II[III)V"⟩
abbrev cX6_settles : ByteArray := prog_8_method_25_code
def yX6_settles : MethodName := ⟨RX6, "settles", "()V"⟩
abbrev cX6_asItIs : ByteArray := prog_8_method_26_code
def yX6_asItIs : MethodName := ⟨RX6, "asItIs", "()V"⟩
abbrev cX6_roomOf : ByteArray := prog_8_method_27_code
def yX6_roomOf : MethodName := ⟨RX6, "roomOf", "(I)I"⟩
abbrev cX6_hourOf : ByteArray := prog_8_method_28_code
def yX6_hourOf : MethodName := ⟨RX6, "hourOf", "(I)I"⟩
abbrev cX6_weighs : ByteArray := prog_8_method_29_code
def yX6_weighs : MethodName := ⟨RX6, "weighs", "(I)I"⟩
abbrev cX6_laterThan : ByteArray := prog_8_method_30_code
def yX6_laterThan : MethodName := ⟨RX6, "laterThan", "(II)I"⟩
abbrev cX6_doesTell : ByteArray := prog_8_method_31_code
def yX6_doesTell : MethodName := ⟨RX6, "doesTell", "(III)Z"⟩
abbrev cX6_toldBy : ByteArray := prog_8_method_32_code
def yX6_toldBy : MethodName := ⟨RX6, "toldBy", "(I)I"⟩
abbrev cX6_isLoose : ByteArray := prog_8_method_33_code
def yX6_isLoose : MethodName := ⟨RX6, "isLoose", "(I)Z"⟩
abbrev cX6_loose : ByteArray := prog_8_method_34_code
def yX6_loose : MethodName := ⟨RX6, "loose", "()I"⟩
abbrev cX6_tellers : ByteArray := prog_8_method_35_code
def yX6_tellers : MethodName := ⟨RX6, "tellers", "(I)I"⟩
abbrev cX6_priceOf : ByteArray := prog_8_method_36_code
def yX6_priceOf : MethodName := ⟨RX6, "priceOf", "(I)I"⟩
abbrev cX6_allWeigh : ByteArray := prog_8_method_37_code
def yX6_allWeigh : MethodName := ⟨RX6, "allWeigh", "(I)I"⟩
abbrev cX6_toldByAll : ByteArray := prog_8_method_38_code
def yX6_toldByAll : MethodName := ⟨RX6, "toldByAll", "(I)I"⟩
abbrev cX6_piece : ByteArray := prog_8_method_39_code
def yX6_piece : MethodName := ⟨RX6, "piece", "(II)I"⟩
abbrev cX6_deed : ByteArray := prog_8_method_40_code
def yX6_deed : MethodName := ⟨RX6, "deed", "(II)I"⟩
abbrev cX6_remembers : ByteArray := prog_8_method_41_code
def yX6_remembers : MethodName := ⟨RX6, "remembers", "()V"⟩
abbrev cX6_speak : ByteArray := prog_8_method_42_code
def yX6_speak : MethodName := ⟨RX6, "speak", "(I)I"⟩
abbrev cX6_buy : ByteArray := prog_8_method_43_code
def yX6_buy : MethodName := ⟨RX6, "buy", "(I)I"⟩
abbrev cX6_carry : ByteArray := prog_8_method_44_code
def yX6_carry : MethodName := ⟨RX6, "carry", "(II)I"⟩
abbrev cX6_undo : ByteArray := prog_8_method_45_code
def yX6_undo : MethodName := ⟨RX6, "undo", "()I"⟩
abbrev cX6_hushes : ByteArray := prog_8_method_46_code
def yX6_hushes : MethodName := ⟨RX6, "hushes", "(II)I"⟩
abbrev cX6_hush : ByteArray := prog_8_method_47_code
def yX6_hush : MethodName := ⟨RX6, "hush", "(II)I"⟩
abbrev cX6_hushAll : ByteArray := prog_8_method_48_code
def yX6_hushAll : MethodName := ⟨RX6, "hushAll", "(II)I"⟩
abbrev cX6_hushOne : ByteArray := prog_8_method_49_code
def yX6_hushOne : MethodName := ⟨RX6, "hushOne", "(II)I"⟩
abbrev cX6_save : ByteArray := prog_8_method_50_code
def yX6_save : MethodName := ⟨RX6, "save", "(I)I"⟩
abbrev cX6_together : ByteArray := prog_8_method_51_code
def yX6_together : MethodName := ⟨RX6, "together", "(II)I"⟩
abbrev cX6_cover : ByteArray := prog_8_method_52_code
def yX6_cover : MethodName := ⟨RX6, "cover", "(I)I"⟩
abbrev cX6_safe : ByteArray := prog_8_method_53_code
def yX6_safe : MethodName := ⟨RX6, "safe", "(II)I"⟩
abbrev cX6_dealer : ByteArray := prog_8_method_54_code
def yX6_dealer : MethodName := ⟨RX6, "dealer", "(I)I"⟩
abbrev cX6_ruin : ByteArray := prog_8_method_55_code
def yX6_ruin : MethodName := ⟨RX6, "ruin", "(I)I"⟩
abbrev cX6_seen : ByteArray := prog_8_method_56_code
def yX6_seen : MethodName := ⟨RX6, "seen", "(III)I"⟩
abbrev cX6_forget : ByteArray := prog_8_method_57_code
def yX6_forget : MethodName := ⟨RX6, "forget", "()I"⟩
abbrev cX6_isSo : ByteArray := prog_8_method_58_code
def yX6_isSo : MethodName := ⟨RX6, "isSo", "(I)Z"⟩
abbrev cX6_may : ByteArray := prog_8_method_59_code
def yX6_may : MethodName := ⟨RX6, "may", "(II)I"⟩
abbrev cX6_likely : ByteArray := prog_8_method_60_code
def yX6_likely : MethodName := ⟨RX6, "likely", "(III)I"⟩
abbrev cX6_sale : ByteArray := prog_8_method_61_code
def yX6_sale : MethodName := ⟨RX6, "sale", "(III)I"⟩
abbrev cX6_keep : ByteArray := prog_8_method_62_code
def yX6_keep : MethodName := ⟨RX6, "keep", "()I"⟩
abbrev cX6_back : ByteArray := prog_8_method_63_code
def yX6_back : MethodName := ⟨RX6, "back", "()I"⟩
abbrev cX6_manyAre : ByteArray := prog_8_method_64_code
def yX6_manyAre : MethodName := ⟨RX6, "manyAre", "(I)I"⟩
abbrev cX6_count : ByteArray := prog_8_method_65_code
def yX6_count : MethodName := ⟨RX6, "count", "(I)I"⟩
def RJ6 : String := "java/lang/Integer"
def TJ6 : u_T := fun k => match k with
  | _ => ("", "", "", false)
def tyJ6 : Nat → FieldType := fun k => match k with
  | _ => .int
abbrev wsJ60 : List Cond := u_ws RJ6 TJ6 0
theorem nmJ6 : ∀ a, a < 0 → ∀ b, b < 0 → a ≠ b → (TJ6 a).2.1 ≠ (TJ6 b).2.1 := by decide +kernel
theorem tyJ6_ok : ∀ k, k < 0 → parseFieldDescriptor (TJ6 k).2.2.1 = some (tyJ6 k) := by decide +kernel
abbrev cJ6_bitCount_0f7a4 : ByteArray := prog_9_method_49_code
def yJ6_bitCount_0f7a4 : MethodName := ⟨RJ6, "bitCount", "(I)I"⟩
def RJ9 : String := "java/lang/Math"
def TJ9 : u_T := fun k => match k with
  | _ => ("", "", "", false)
def tyJ9 : Nat → FieldType := fun k => match k with
  | _ => .int
abbrev wsJ90 : List Cond := u_ws RJ9 TJ9 0
theorem nmJ9 : ∀ a, a < 0 → ∀ b, b < 0 → a ≠ b → (TJ9 a).2.1 ≠ (TJ9 b).2.1 := by decide +kernel
theorem tyJ9_ok : ∀ k, k < 0 → parseFieldDescriptor (TJ9 k).2.2.1 = some (tyJ9 k) := by decide +kernel
abbrev cJ9_max_7cf53 : ByteArray := prog_10_method_65_code
def yJ9_max_7cf53 : MethodName := ⟨RJ9, "max", "(II)I"⟩
abbrev cJ9_min_7cf53 : ByteArray := prog_10_method_69_code
def yJ9_min_7cf53 : MethodName := ⟨RJ9, "min", "(II)I"⟩
def RJ0 : String := "java/lang/String"
def TJ0 : u_T := fun k => match k with
  | _ => ("", "", "", false)
def tyJ0 : Nat → FieldType := fun k => match k with
  | _ => .int
abbrev wsJ00 : List Cond := u_ws RJ0 TJ0 0
theorem nmJ0 : ∀ a, a < 0 → ∀ b, b < 0 → a ≠ b → (TJ0 a).2.1 ≠ (TJ0 b).2.1 := by decide +kernel
theorem tyJ0_ok : ∀ k, k < 0 → parseFieldDescriptor (TJ0 k).2.2.1 = some (tyJ0 k) := by decide +kernel
abbrev cJ0_length_8abf5 : ByteArray := prog_11_method_54_code
def yJ0_length_8abf5 : MethodName := ⟨RJ0, "length", "()I"⟩
abbrev cJ0_charAt_5068e : ByteArray := prog_11_method_56_code
def yJ0_charAt_5068e : MethodName := ⟨RJ0, "charAt", "(I)C"⟩
abbrev cJ0_coder_7d493 : ByteArray := prog_11_method_152_code
def yJ0_coder_7d493 : MethodName := ⟨RJ0, "coder", "()B"⟩
abbrev cJ0_isLatin1_aae02 : ByteArray := prog_11_method_154_code
def yJ0_isLatin1_aae02 : MethodName := ⟨RJ0, "isLatin1", "()Z"⟩
abbrev cJ0_checkIndex_df160 : ByteArray := prog_11_method_155_code
def yJ0_checkIndex_df160 : MethodName := ⟨RJ0, "checkIndex", "(II)V"⟩
def RJ1 : String := "java/lang/StringLatin1"
def TJ1 : u_T := fun k => match k with
  | _ => ("", "", "", false)
def tyJ1 : Nat → FieldType := fun k => match k with
  | _ => .int
abbrev wsJ10 : List Cond := u_ws RJ1 TJ1 0
theorem nmJ1 : ∀ a, a < 0 → ∀ b, b < 0 → a ≠ b → (TJ1 a).2.1 ≠ (TJ1 b).2.1 := by decide +kernel
theorem tyJ1_ok : ∀ k, k < 0 → parseFieldDescriptor (TJ1 k).2.2.1 = some (tyJ1 k) := by decide +kernel
abbrev cJ1_charAt_3b067 : ByteArray := prog_12_method_2_code
def yJ1_charAt_3b067 : MethodName := ⟨RJ1, "charAt", "([BI)C"⟩
def RJ2 : String := "java/lang/StringUTF16"
def TJ2 : u_T := fun k => match k with
  | _ => ("", "", "", false)
def tyJ2 : Nat → FieldType := fun k => match k with
  | _ => .int
abbrev wsJ20 : List Cond := u_ws RJ2 TJ2 0
theorem nmJ2 : ∀ a, a < 0 → ∀ b, b < 0 → a ≠ b → (TJ2 a).2.1 ≠ (TJ2 b).2.1 := by decide +kernel
theorem tyJ2_ok : ∀ k, k < 0 → parseFieldDescriptor (TJ2 k).2.2.1 = some (tyJ2 k) := by decide +kernel
abbrev cJ2_getChar_3b067 : ByteArray := prog_13_method_5_code
def yJ2_getChar_3b067 : MethodName := ⟨RJ2, "getChar", "([BI)C"⟩
abbrev cJ2_length_9d52b : ByteArray := prog_13_method_6_code
def yJ2_length_9d52b : MethodName := ⟨RJ2, "length", "([B)I"⟩
abbrev cJ2_charAt_3b067 : ByteArray := prog_13_method_83_code
def yJ2_charAt_3b067 : MethodName := ⟨RJ2, "charAt", "([BI)C"⟩
abbrev cJ2_checkIndex_2214a : ByteArray := prog_13_method_91_code
def yJ2_checkIndex_2214a : MethodName := ⟨RJ2, "checkIndex", "(I[B)V"⟩
def RJ3 : String := "jdk/internal/util/Preconditions"
def TJ3 : u_T := fun k => match k with
  | _ => ("", "", "", false)
def tyJ3 : Nat → FieldType := fun k => match k with
  | _ => .int
abbrev wsJ30 : List Cond := u_ws RJ3 TJ3 0
theorem nmJ3 : ∀ a, a < 0 → ∀ b, b < 0 → a ≠ b → (TJ3 a).2.1 ≠ (TJ3 b).2.1 := by decide +kernel
theorem tyJ3_ok : ∀ k, k < 0 → parseFieldDescriptor (TJ3 k).2.2.1 = some (tyJ3 k) := by decide +kernel
abbrev cJ3_checkIndex_8e157 : ByteArray := prog_14_method_11_code
def yJ3_checkIndex_8e157 : MethodName := ⟨RJ3, "checkIndex", "(IILjava/util/function/BiFunction;)I"⟩
def RL : String := "SpeaksForTheChairLaw"
abbrev cL_law : ByteArray := code
def yL_law : MethodName := ⟨RL, "law", "([I)Z"⟩
def wsX0_init : List Cond := .code yX0_init cX0_init 1 none :: ([.methodLink RX0 3 objectInit, .instanceMethod objectInit, .code objectInit ⟨#[0xb1]⟩ 1 none, .arrayClass .int, .fieldLink RX0 9 "SpeaksForTheChair$House" "kinds" "[I", .fieldLink RX0 15 "SpeaksForTheChair$House" "prices" "[I", .fieldLink RX0 18 "SpeaksForTheChair$House" "persons" "[I", .fieldLink RX0 21 "SpeaksForTheChair$House" "places" "[I", .fieldLink RX0 24 "SpeaksForTheChair$House" "hours" "[I", .fieldLink RX0 27 "SpeaksForTheChair$House" "weights" "[I", .fieldLink RX0 30 "SpeaksForTheChair$House" "numbers" "[I"] ++ wsX00)
def wsX1_letterAt : List Cond := .code yX1_letterAt cX1_letterAt 2 (some .int) :: ([.fieldLink RX1 15 "SpeaksForTheChair$Page" "length" "I", .fieldLink RX1 9 "SpeaksForTheChair$Page" "letters" "[C"] ++ wsX10)
def wsX0_numbersBehind : List Cond := .code yX0_numbersBehind cX0_numbersBehind 1 (some .int) :: ([])
def wsX0_isFigure : List Cond := .code yX0_isFigure cX0_isFigure 1 (some .boolean) :: ([])
def wsX0_figuresAt : List Cond := .code yX0_figuresAt cX0_figuresAt 2 (some .int) :: ([.methodLink RX0 58 yX1_letterAt, .instanceMethod yX1_letterAt, .selects RX1 yX1_letterAt yX1_letterAt, .initialized RX1, .code yX1_letterAt cX1_letterAt 2 (some .int), .fieldLink RX1 15 "SpeaksForTheChair$Page" "length" "I", .fieldLink RX1 9 "SpeaksForTheChair$Page" "letters" "[C", .methodLink RX0 76 yX0_isFigure, .static yX0_isFigure, .initialized RX0, .code yX0_isFigure cX0_isFigure 1 (some .boolean)] ++ wsX10)
def wsX0_numberAt : List Cond := .code yX0_numberAt cX0_numberAt 4 (some .int) :: ([.methodLink RX0 58 yX1_letterAt, .instanceMethod yX1_letterAt, .selects RX1 yX1_letterAt yX1_letterAt, .initialized RX1, .code yX1_letterAt cX1_letterAt 2 (some .int), .fieldLink RX1 15 "SpeaksForTheChair$Page" "length" "I", .fieldLink RX1 9 "SpeaksForTheChair$Page" "letters" "[C"] ++ wsX10)
def wsX0_takePiece : List Cond := .code yX0_takePiece cX0_takePiece 1 (some .boolean) :: ([.fieldLink RX0 33 "SpeaksForTheChair$House" "pieces" "I", .fieldLink RX0 30 "SpeaksForTheChair$House" "numbers" "[I", .fieldLink RX0 9 "SpeaksForTheChair$House" "kinds" "[I", .fieldLink RX0 40 "SpeaksForTheChair$House" "roomsAtFirst" "I", .fieldLink RX0 15 "SpeaksForTheChair$House" "prices" "[I"] ++ wsX00)
def wsX0_takeDeed : List Cond := .code yX0_takeDeed cX0_takeDeed 1 (some .boolean) :: ([.fieldLink RX0 37 "SpeaksForTheChair$House" "deeds" "I", .fieldLink RX0 30 "SpeaksForTheChair$House" "numbers" "[I", .fieldLink RX0 18 "SpeaksForTheChair$House" "persons" "[I", .fieldLink RX0 21 "SpeaksForTheChair$House" "places" "[I", .fieldLink RX0 24 "SpeaksForTheChair$House" "hours" "[I", .fieldLink RX0 27 "SpeaksForTheChair$House" "weights" "[I"] ++ wsX00)
def wsX0_takeCoins : List Cond := .code yX0_takeCoins cX0_takeCoins 1 (some .boolean) :: ([.fieldLink RX0 30 "SpeaksForTheChair$House" "numbers" "[I", .fieldLink RX0 46 "SpeaksForTheChair$House" "coins" "I"] ++ wsX00)
def wsX0_takeLaw : List Cond := .code yX0_takeLaw cX0_takeLaw 1 (some .boolean) :: ([.fieldLink RX0 30 "SpeaksForTheChair$House" "numbers" "[I", .fieldLink RX0 43 "SpeaksForTheChair$House" "law" "I"] ++ wsX00)
def wsX0_takeItem_r1 : List Cond := [Cond.methodLink RX0 79 yX0_takePiece, Cond.instanceMethod yX0_takePiece, Cond.selects RX0 yX0_takePiece yX0_takePiece, Cond.initialized RX0, Cond.code yX0_takePiece cX0_takePiece 1 (some .boolean), Cond.fieldLink RX0 33 "SpeaksForTheChair$House" "pieces" "I", Cond.fieldLink RX0 30 "SpeaksForTheChair$House" "numbers" "[I", Cond.fieldLink RX0 9 "SpeaksForTheChair$House" "kinds" "[I", Cond.fieldLink RX0 40 "SpeaksForTheChair$House" "roomsAtFirst" "I", Cond.fieldLink RX0 15 "SpeaksForTheChair$House" "prices" "[I", Cond.methodLink RX0 83 yX0_takeDeed, Cond.instanceMethod yX0_takeDeed, Cond.selects RX0 yX0_takeDeed yX0_takeDeed, Cond.code yX0_takeDeed cX0_takeDeed 1 (some .boolean), Cond.fieldLink RX0 37 "SpeaksForTheChair$House" "deeds" "I", Cond.fieldLink RX0 18 "SpeaksForTheChair$House" "persons" "[I", Cond.fieldLink RX0 21 "SpeaksForTheChair$House" "places" "[I", Cond.fieldLink RX0 24 "SpeaksForTheChair$House" "hours" "[I", Cond.fieldLink RX0 27 "SpeaksForTheChair$House" "weights" "[I", Cond.methodLink RX0 86 yX0_takeCoins, Cond.instanceMethod yX0_takeCoins, Cond.selects RX0 yX0_takeCoins yX0_takeCoins, Cond.code yX0_takeCoins cX0_takeCoins 1 (some .boolean), Cond.fieldLink RX0 46 "SpeaksForTheChair$House" "coins" "I"]
def wsX0_takeItem_r2 : List Cond := [Cond.methodLink RX0 89 yX0_takeLaw, Cond.instanceMethod yX0_takeLaw, Cond.selects RX0 yX0_takeLaw yX0_takeLaw, Cond.code yX0_takeLaw cX0_takeLaw 1 (some .boolean), Cond.fieldLink RX0 43 "SpeaksForTheChair$House" "law" "I"]
def wsX0_takeItem : List Cond := .code yX0_takeItem cX0_takeItem 2 (some .boolean) :: ((wsX0_takeItem_r1 ++ wsX0_takeItem_r2) ++ wsX00)
def wsX0_readItem_r1 : List Cond := [Cond.fieldLink RX0 30 "SpeaksForTheChair$House" "numbers" "[I", Cond.methodLink RX0 58 yX1_letterAt, Cond.instanceMethod yX1_letterAt, Cond.selects RX1 yX1_letterAt yX1_letterAt, Cond.initialized RX1, Cond.code yX1_letterAt cX1_letterAt 2 (some .int), Cond.fieldLink RX1 15 "SpeaksForTheChair$Page" "length" "I", Cond.fieldLink RX1 9 "SpeaksForTheChair$Page" "letters" "[C", Cond.methodLink RX0 62 yX0_numbersBehind, Cond.static yX0_numbersBehind, Cond.initialized RX0, Cond.code yX0_numbersBehind cX0_numbersBehind 1 (some .int), Cond.methodLink RX0 65 yX0_figuresAt, Cond.static yX0_figuresAt, Cond.code yX0_figuresAt cX0_figuresAt 2 (some .int), Cond.methodLink RX0 76 yX0_isFigure, Cond.static yX0_isFigure, Cond.code yX0_isFigure cX0_isFigure 1 (some .boolean), Cond.methodLink RX0 68 yX0_numberAt, Cond.static yX0_numberAt, Cond.code yX0_numberAt cX0_numberAt 4 (some .int), Cond.methodLink RX0 72 yX0_takeItem, Cond.instanceMethod yX0_takeItem, Cond.selects RX0 yX0_takeItem yX0_takeItem]
def wsX0_readItem_r2 : List Cond := [Cond.code yX0_takeItem cX0_takeItem 2 (some .boolean), Cond.methodLink RX0 79 yX0_takePiece, Cond.instanceMethod yX0_takePiece, Cond.selects RX0 yX0_takePiece yX0_takePiece, Cond.code yX0_takePiece cX0_takePiece 1 (some .boolean), Cond.fieldLink RX0 33 "SpeaksForTheChair$House" "pieces" "I", Cond.fieldLink RX0 9 "SpeaksForTheChair$House" "kinds" "[I", Cond.fieldLink RX0 40 "SpeaksForTheChair$House" "roomsAtFirst" "I", Cond.fieldLink RX0 15 "SpeaksForTheChair$House" "prices" "[I", Cond.methodLink RX0 83 yX0_takeDeed, Cond.instanceMethod yX0_takeDeed, Cond.selects RX0 yX0_takeDeed yX0_takeDeed, Cond.code yX0_takeDeed cX0_takeDeed 1 (some .boolean), Cond.fieldLink RX0 37 "SpeaksForTheChair$House" "deeds" "I", Cond.fieldLink RX0 18 "SpeaksForTheChair$House" "persons" "[I", Cond.fieldLink RX0 21 "SpeaksForTheChair$House" "places" "[I", Cond.fieldLink RX0 24 "SpeaksForTheChair$House" "hours" "[I", Cond.fieldLink RX0 27 "SpeaksForTheChair$House" "weights" "[I", Cond.methodLink RX0 86 yX0_takeCoins, Cond.instanceMethod yX0_takeCoins, Cond.selects RX0 yX0_takeCoins yX0_takeCoins, Cond.code yX0_takeCoins cX0_takeCoins 1 (some .boolean), Cond.fieldLink RX0 46 "SpeaksForTheChair$House" "coins" "I", Cond.methodLink RX0 89 yX0_takeLaw]
def wsX0_readItem_r3 : List Cond := [Cond.instanceMethod yX0_takeLaw, Cond.selects RX0 yX0_takeLaw yX0_takeLaw, Cond.code yX0_takeLaw cX0_takeLaw 1 (some .boolean), Cond.fieldLink RX0 43 "SpeaksForTheChair$House" "law" "I"]
def wsX0_readItem : List Cond := .code yX0_readItem cX0_readItem 8 (some .int) :: ((wsX0_readItem_r1 ++ (wsX0_readItem_r2 ++ wsX0_readItem_r3)) ++ wsX00 ++ wsX10)
def wsX0_readFrom_r1 : List Cond := [Cond.fieldLink RX0 33 "SpeaksForTheChair$House" "pieces" "I", Cond.fieldLink RX0 37 "SpeaksForTheChair$House" "deeds" "I", Cond.fieldLink RX0 40 "SpeaksForTheChair$House" "roomsAtFirst" "I", Cond.fieldLink RX0 43 "SpeaksForTheChair$House" "law" "I", Cond.fieldLink RX0 46 "SpeaksForTheChair$House" "coins" "I", Cond.fieldLink RX0 49 "SpeaksForTheChair$Page" "length" "I", Cond.methodLink RX0 54 yX0_readItem, Cond.instanceMethod yX0_readItem, Cond.selects RX0 yX0_readItem yX0_readItem, Cond.initialized RX0, Cond.code yX0_readItem cX0_readItem 8 (some .int), Cond.fieldLink RX0 30 "SpeaksForTheChair$House" "numbers" "[I", Cond.methodLink RX0 58 yX1_letterAt, Cond.instanceMethod yX1_letterAt, Cond.selects RX1 yX1_letterAt yX1_letterAt, Cond.initialized RX1, Cond.code yX1_letterAt cX1_letterAt 2 (some .int), Cond.fieldLink RX1 15 "SpeaksForTheChair$Page" "length" "I", Cond.fieldLink RX1 9 "SpeaksForTheChair$Page" "letters" "[C", Cond.methodLink RX0 62 yX0_numbersBehind, Cond.static yX0_numbersBehind, Cond.code yX0_numbersBehind cX0_numbersBehind 1 (some .int), Cond.methodLink RX0 65 yX0_figuresAt, Cond.static yX0_figuresAt]
def wsX0_readFrom_r2 : List Cond := [Cond.code yX0_figuresAt cX0_figuresAt 2 (some .int), Cond.methodLink RX0 76 yX0_isFigure, Cond.static yX0_isFigure, Cond.code yX0_isFigure cX0_isFigure 1 (some .boolean), Cond.methodLink RX0 68 yX0_numberAt, Cond.static yX0_numberAt, Cond.code yX0_numberAt cX0_numberAt 4 (some .int), Cond.methodLink RX0 72 yX0_takeItem, Cond.instanceMethod yX0_takeItem, Cond.selects RX0 yX0_takeItem yX0_takeItem, Cond.code yX0_takeItem cX0_takeItem 2 (some .boolean), Cond.methodLink RX0 79 yX0_takePiece, Cond.instanceMethod yX0_takePiece, Cond.selects RX0 yX0_takePiece yX0_takePiece, Cond.code yX0_takePiece cX0_takePiece 1 (some .boolean), Cond.fieldLink RX0 9 "SpeaksForTheChair$House" "kinds" "[I", Cond.fieldLink RX0 15 "SpeaksForTheChair$House" "prices" "[I", Cond.methodLink RX0 83 yX0_takeDeed, Cond.instanceMethod yX0_takeDeed, Cond.selects RX0 yX0_takeDeed yX0_takeDeed, Cond.code yX0_takeDeed cX0_takeDeed 1 (some .boolean), Cond.fieldLink RX0 18 "SpeaksForTheChair$House" "persons" "[I", Cond.fieldLink RX0 21 "SpeaksForTheChair$House" "places" "[I", Cond.fieldLink RX0 24 "SpeaksForTheChair$House" "hours" "[I"]
def wsX0_readFrom_r3 : List Cond := [Cond.fieldLink RX0 27 "SpeaksForTheChair$House" "weights" "[I", Cond.methodLink RX0 86 yX0_takeCoins, Cond.instanceMethod yX0_takeCoins, Cond.selects RX0 yX0_takeCoins yX0_takeCoins, Cond.code yX0_takeCoins cX0_takeCoins 1 (some .boolean), Cond.methodLink RX0 89 yX0_takeLaw, Cond.instanceMethod yX0_takeLaw, Cond.selects RX0 yX0_takeLaw yX0_takeLaw, Cond.code yX0_takeLaw cX0_takeLaw 1 (some .boolean)]
def wsX0_readFrom : List Cond := .code yX0_readFrom cX0_readFrom 4 (some .int) :: ((wsX0_readFrom_r1 ++ (wsX0_readFrom_r2 ++ wsX0_readFrom_r3)) ++ wsX00 ++ wsX10)
def wsX0_forbids : List Cond := .code yX0_forbids cX0_forbids 2 (some .boolean) :: ([.fieldLink RX0 43 "SpeaksForTheChair$House" "law" "I"] ++ wsX00)
def wsX0_laterOnes : List Cond := .code yX0_laterOnes cX0_laterOnes 7 (some .int) :: ([.fieldLink RX0 37 "SpeaksForTheChair$House" "deeds" "I", .fieldLink RX0 24 "SpeaksForTheChair$House" "hours" "[I", .fieldLink RX0 21 "SpeaksForTheChair$House" "places" "[I"] ++ wsX00)
def wsX0_wouldTell : List Cond := .code yX0_wouldTell cX0_wouldTell 6 (some .boolean) :: ([.methodLink RX0 96 yX0_laterOnes, .instanceMethod yX0_laterOnes, .selects RX0 yX0_laterOnes yX0_laterOnes, .initialized RX0, .code yX0_laterOnes cX0_laterOnes 7 (some .int), .fieldLink RX0 37 "SpeaksForTheChair$House" "deeds" "I", .fieldLink RX0 24 "SpeaksForTheChair$House" "hours" "[I", .fieldLink RX0 21 "SpeaksForTheChair$House" "places" "[I"] ++ wsX00)
def wsX0_toldBy : List Cond := .code yX0_toldBy cX0_toldBy 5 (some .int) :: ([.fieldLink RX0 37 "SpeaksForTheChair$House" "deeds" "I", .fieldLink RX0 21 "SpeaksForTheChair$House" "places" "[I", .fieldLink RX0 9 "SpeaksForTheChair$House" "kinds" "[I", .fieldLink RX0 24 "SpeaksForTheChair$House" "hours" "[I", .fieldLink RX0 27 "SpeaksForTheChair$House" "weights" "[I", .methodLink RX0 92 yX0_wouldTell, .instanceMethod yX0_wouldTell, .selects RX0 yX0_wouldTell yX0_wouldTell, .initialized RX0, .code yX0_wouldTell cX0_wouldTell 6 (some .boolean), .methodLink RX0 96 yX0_laterOnes, .instanceMethod yX0_laterOnes, .selects RX0 yX0_laterOnes yX0_laterOnes, .code yX0_laterOnes cX0_laterOnes 7 (some .int)] ++ wsX00)
def wsX0_deedsAsHeavyAs : List Cond := .code yX0_deedsAsHeavyAs cX0_deedsAsHeavyAs 4 (some .int) :: ([.fieldLink RX0 37 "SpeaksForTheChair$House" "deeds" "I", .fieldLink RX0 27 "SpeaksForTheChair$House" "weights" "[I"] ++ wsX00)
def wsX0_deedsOf : List Cond := .code yX0_deedsOf cX0_deedsOf 4 (some .int) :: ([.fieldLink RX0 37 "SpeaksForTheChair$House" "deeds" "I", .fieldLink RX0 18 "SpeaksForTheChair$House" "persons" "[I"] ++ wsX00)
def wsX0_weightOf : List Cond := .code yX0_weightOf cX0_weightOf 4 (some .int) :: ([.fieldLink RX0 37 "SpeaksForTheChair$House" "deeds" "I", .fieldLink RX0 27 "SpeaksForTheChair$House" "weights" "[I"] ++ wsX00)
def wsX0_priceOf : List Cond := .code yX0_priceOf cX0_priceOf 4 (some .int) :: ([.fieldLink RX0 33 "SpeaksForTheChair$House" "pieces" "I", .fieldLink RX0 15 "SpeaksForTheChair$House" "prices" "[I"] ++ wsX00)
def wsX1_init : List Cond := .code yX1_init cX1_init 1 none :: ([.methodLink RX1 3 objectInit, .instanceMethod objectInit, .code objectInit ⟨#[0xb1]⟩ 1 none, .arrayClass .char, .fieldLink RX1 9 "SpeaksForTheChair$Page" "letters" "[C"] ++ wsX10)
def wsX1_add : List Cond := .code yX1_add cX1_add 2 (some .boolean) :: ([.fieldLink RX1 15 "SpeaksForTheChair$Page" "length" "I", .fieldLink RX1 9 "SpeaksForTheChair$Page" "letters" "[C"] ++ wsX10)
def wsX1_clear : List Cond := .code yX1_clear cX1_clear 1 none :: ([.fieldLink RX1 15 "SpeaksForTheChair$Page" "length" "I"] ++ wsX10)
def wsX2_init : List Cond := .code yX2_init cX2_init 1 none :: ([.methodLink RX2 3 objectInit, .instanceMethod objectInit, .code objectInit ⟨#[0xb1]⟩ 1 none, .arrayClass .long, .fieldLink RX2 9 "SpeaksForTheChair$Past" "ring" "[J"] ++ wsX20)
def wsX2_push : List Cond := .code yX2_push cX2_push 3 none :: ([.fieldLink RX2 9 "SpeaksForTheChair$Past" "ring" "[J", .fieldLink RX2 15 "SpeaksForTheChair$Past" "next" "I", .fieldLink RX2 19 "SpeaksForTheChair$Past" "depth" "I", .methodLink RX2 22 Lib.Math.min.name, .static Lib.Math.min.name, .initialized "java/lang/Math", .code Lib.Math.min.name Lib.Math.min.code 2 (some .int)] ++ wsX20)
def wsX2_pop : List Cond := .code yX2_pop cX2_pop 1 (some .long) :: ([.fieldLink RX2 15 "SpeaksForTheChair$Past" "next" "I", .fieldLink RX2 19 "SpeaksForTheChair$Past" "depth" "I", .methodLink RX2 28 Lib.Math.max.name, .static Lib.Math.max.name, .initialized "java/lang/Math", .code Lib.Math.max.name Lib.Math.max.code 2 (some .int), .fieldLink RX2 9 "SpeaksForTheChair$Past" "ring" "[J"] ++ wsX20)
def wsX2_clear : List Cond := .code yX2_clear cX2_clear 1 none :: ([.fieldLink RX2 19 "SpeaksForTheChair$Past" "depth" "I"] ++ wsX20)
def wsX3_init : List Cond := .code yX3_init cX3_init 1 none :: ([.methodLink RX3 3 objectInit, .instanceMethod objectInit, .code objectInit ⟨#[0xb1]⟩ 1 none, .arrayClass .int, .fieldLink RX3 9 "SpeaksForTheChair$Sightings" "pieces" "[I", .fieldLink RX3 15 "SpeaksForTheChair$Sightings" "deeds" "[I", .arrayClass .boolean, .fieldLink RX3 18 "SpeaksForTheChair$Sightings" "tells" "[Z"] ++ wsX30)
def wsX3_add : List Cond := .code yX3_add cX3_add 4 (some .boolean) :: ([.fieldLink RX3 22 "SpeaksForTheChair$Sightings" "length" "I", .fieldLink RX3 9 "SpeaksForTheChair$Sightings" "pieces" "[I", .fieldLink RX3 15 "SpeaksForTheChair$Sightings" "deeds" "[I", .fieldLink RX3 18 "SpeaksForTheChair$Sightings" "tells" "[Z"] ++ wsX30)
def wsX3_clear : List Cond := .code yX3_clear cX3_clear 1 none :: ([.fieldLink RX3 22 "SpeaksForTheChair$Sightings" "length" "I"] ++ wsX30)
def wsX4_init : List Cond := .code yX4_init cX4_init 1 none :: ([.methodLink RX4 3 objectInit, .instanceMethod objectInit, .code objectInit ⟨#[0xb1]⟩ 1 none])
def wsX4_begin : List Cond := .code yX4_begin cX4_begin 3 none :: ([.fieldLink RX4 9 "SpeaksForTheChair$Standing" "rooms" "I", .fieldLink RX4 15 "SpeaksForTheChair$Standing" "bought" "I", .fieldLink RX4 18 "SpeaksForTheChair$Standing" "spoken" "I", .fieldLink RX4 21 "SpeaksForTheChair$Standing" "out" "I", .fieldLink RX4 24 "SpeaksForTheChair$Standing" "coins" "I"] ++ wsX40)
def wsX4_packed : List Cond := .code yX4_packed cX4_packed 1 (some .long) :: ([.fieldLink RX4 24 "SpeaksForTheChair$Standing" "coins" "I", .fieldLink RX4 21 "SpeaksForTheChair$Standing" "out" "I", .fieldLink RX4 18 "SpeaksForTheChair$Standing" "spoken" "I", .fieldLink RX4 15 "SpeaksForTheChair$Standing" "bought" "I", .fieldLink RX4 9 "SpeaksForTheChair$Standing" "rooms" "I"] ++ wsX40)
def wsX4_unpack : List Cond := .code yX4_unpack cX4_unpack 3 none :: ([.constantLong RX4 27 (65535), .fieldLink RX4 9 "SpeaksForTheChair$Standing" "rooms" "I", .constantLong RX4 29 (255), .fieldLink RX4 15 "SpeaksForTheChair$Standing" "bought" "I", .fieldLink RX4 18 "SpeaksForTheChair$Standing" "spoken" "I", .fieldLink RX4 21 "SpeaksForTheChair$Standing" "out" "I", .fieldLink RX4 24 "SpeaksForTheChair$Standing" "coins" "I"] ++ wsX40)
def wsX4_roomOf : List Cond := .code yX4_roomOf cX4_roomOf 2 (some .int) :: ([.fieldLink RX4 9 "SpeaksForTheChair$Standing" "rooms" "I"] ++ wsX40)
def wsX4_howIs : List Cond := .code yX4_howIs cX4_howIs 2 (some .int) :: ([.fieldLink RX4 18 "SpeaksForTheChair$Standing" "spoken" "I", .fieldLink RX4 15 "SpeaksForTheChair$Standing" "bought" "I"] ++ wsX40)
def wsJ6_bitCount_0f7a4 : List Cond := .code yJ6_bitCount_0f7a4 cJ6_bitCount_0f7a4 1 (some .int) :: ([.constant RJ6 265 (1431655765), .constant RJ6 266 (858993459), .constant RJ6 267 (252645135)])
def wsX4_letSpeak : List Cond := .code yX4_letSpeak cX4_letSpeak 4 (some .int) :: ([.fieldLink RX4 21 "SpeaksForTheChair$Standing" "out" "I", .fieldLink RX4 18 "SpeaksForTheChair$Standing" "spoken" "I", .methodLink RX4 31 yJ6_bitCount_0f7a4, .static yJ6_bitCount_0f7a4, .initialized RJ6, .code yJ6_bitCount_0f7a4 cJ6_bitCount_0f7a4 1 (some .int), .constant RJ6 265 (1431655765), .constant RJ6 266 (858993459), .constant RJ6 267 (252645135)] ++ wsX40)
def wsX4_sell : List Cond := .code yX4_sell cX4_sell 3 none :: ([.fieldLink RX4 15 "SpeaksForTheChair$Standing" "bought" "I", .fieldLink RX4 24 "SpeaksForTheChair$Standing" "coins" "I"] ++ wsX40)
def wsX4_move : List Cond := .code yX4_move cX4_move 3 none :: ([.fieldLink RX4 9 "SpeaksForTheChair$Standing" "rooms" "I"] ++ wsX40)
def wsJ0_coder_7d493 : List Cond := .code yJ0_coder_7d493 cJ0_coder_7d493 1 (some .byte) :: ([.fieldLink RJ0 38 "java/lang/String" "COMPACT_STRINGS" "Z", .fieldLink RJ0 15 "java/lang/String" "coder" "B"])
def wsJ0_length_8abf5 : List Cond := .code yJ0_length_8abf5 cJ0_length_8abf5 1 (some .int) :: ([.fieldLink RJ0 9 "java/lang/String" "value" "[B", .methodLink RJ0 335 yJ0_coder_7d493, .instanceMethod yJ0_coder_7d493, .selects RJ0 yJ0_coder_7d493 yJ0_coder_7d493, .initialized RJ0, .code yJ0_coder_7d493 cJ0_coder_7d493 1 (some .byte), .fieldLink RJ0 38 "java/lang/String" "COMPACT_STRINGS" "Z", .fieldLink RJ0 15 "java/lang/String" "coder" "B"])
def wsJ0_isLatin1_aae02 : List Cond := .code yJ0_isLatin1_aae02 cJ0_isLatin1_aae02 1 (some .boolean) :: ([.fieldLink RJ0 38 "java/lang/String" "COMPACT_STRINGS" "Z", .fieldLink RJ0 15 "java/lang/String" "coder" "B"])
def wsJ3_checkIndex_8e157 : List Cond := .code yJ3_checkIndex_8e157 cJ3_checkIndex_8e157 3 (some .int) :: ([])
def wsJ0_checkIndex_df160 : List Cond := .code yJ0_checkIndex_df160 cJ0_checkIndex_df160 2 none :: ([.fieldLink RJ0 1053 "jdk/internal/util/Preconditions" "SIOOBE_FORMATTER" "Ljava/util/function/BiFunction;", .methodLink RJ0 1059 yJ3_checkIndex_8e157, .static yJ3_checkIndex_8e157, .initialized RJ3, .code yJ3_checkIndex_8e157 cJ3_checkIndex_8e157 3 (some .int)])
def wsJ1_charAt_3b067 : List Cond := .code yJ1_charAt_3b067 cJ1_charAt_3b067 2 (some .char) :: ([.methodLink RJ1 9 yJ0_checkIndex_df160, .static yJ0_checkIndex_df160, .initialized RJ0, .code yJ0_checkIndex_df160 cJ0_checkIndex_df160 2 none, .fieldLink RJ0 1053 "jdk/internal/util/Preconditions" "SIOOBE_FORMATTER" "Ljava/util/function/BiFunction;", .methodLink RJ0 1059 yJ3_checkIndex_8e157, .static yJ3_checkIndex_8e157, .initialized RJ3, .code yJ3_checkIndex_8e157 cJ3_checkIndex_8e157 3 (some .int)])
def wsJ2_length_9d52b : List Cond := .code yJ2_length_9d52b cJ2_length_9d52b 1 (some .int) :: ([])
def wsJ2_checkIndex_2214a : List Cond := .code yJ2_checkIndex_2214a cJ2_checkIndex_2214a 2 none :: ([.methodLink RJ2 48 yJ2_length_9d52b, .static yJ2_length_9d52b, .initialized RJ2, .code yJ2_length_9d52b cJ2_length_9d52b 1 (some .int), .methodLink RJ2 414 yJ0_checkIndex_df160, .static yJ0_checkIndex_df160, .initialized RJ0, .code yJ0_checkIndex_df160 cJ0_checkIndex_df160 2 none, .fieldLink RJ0 1053 "jdk/internal/util/Preconditions" "SIOOBE_FORMATTER" "Ljava/util/function/BiFunction;", .methodLink RJ0 1059 yJ3_checkIndex_8e157, .static yJ3_checkIndex_8e157, .initialized RJ3, .code yJ3_checkIndex_8e157 cJ3_checkIndex_8e157 3 (some .int)])
def wsJ2_getChar_3b067 : List Cond := .code yJ2_getChar_3b067 cJ2_getChar_3b067 2 (some .char) :: ([.fieldLink RJ2 44 "java/lang/StringUTF16" "$assertionsDisabled" "Z", .fieldLink RJ2 59 "java/lang/StringUTF16" "HI_BYTE_SHIFT" "I", .fieldLink RJ2 63 "java/lang/StringUTF16" "LO_BYTE_SHIFT" "I", .methodLink RJ2 48 yJ2_length_9d52b, .static yJ2_length_9d52b, .initialized RJ2, .code yJ2_length_9d52b cJ2_length_9d52b 1 (some .int)])
def wsJ2_charAt_3b067 : List Cond := .code yJ2_charAt_3b067 cJ2_charAt_3b067 2 (some .char) :: ([.methodLink RJ2 67 yJ2_checkIndex_2214a, .static yJ2_checkIndex_2214a, .initialized RJ2, .code yJ2_checkIndex_2214a cJ2_checkIndex_2214a 2 none, .methodLink RJ2 48 yJ2_length_9d52b, .static yJ2_length_9d52b, .code yJ2_length_9d52b cJ2_length_9d52b 1 (some .int), .methodLink RJ2 414 yJ0_checkIndex_df160, .static yJ0_checkIndex_df160, .initialized RJ0, .code yJ0_checkIndex_df160 cJ0_checkIndex_df160 2 none, .fieldLink RJ0 1053 "jdk/internal/util/Preconditions" "SIOOBE_FORMATTER" "Ljava/util/function/BiFunction;", .methodLink RJ0 1059 yJ3_checkIndex_8e157, .static yJ3_checkIndex_8e157, .initialized RJ3, .code yJ3_checkIndex_8e157 cJ3_checkIndex_8e157 3 (some .int), .methodLink RJ2 71 yJ2_getChar_3b067, .static yJ2_getChar_3b067, .code yJ2_getChar_3b067 cJ2_getChar_3b067 2 (some .char), .fieldLink RJ2 44 "java/lang/StringUTF16" "$assertionsDisabled" "Z", .fieldLink RJ2 59 "java/lang/StringUTF16" "HI_BYTE_SHIFT" "I", .fieldLink RJ2 63 "java/lang/StringUTF16" "LO_BYTE_SHIFT" "I"])
def wsJ0_charAt_5068e_r1 : List Cond := [Cond.fieldLink RJ0 9 "java/lang/String" "value" "[B", Cond.methodLink RJ0 492 yJ0_isLatin1_aae02, Cond.instanceMethod yJ0_isLatin1_aae02, Cond.selects RJ0 yJ0_isLatin1_aae02 yJ0_isLatin1_aae02, Cond.initialized RJ0, Cond.code yJ0_isLatin1_aae02 cJ0_isLatin1_aae02 1 (some .boolean), Cond.fieldLink RJ0 38 "java/lang/String" "COMPACT_STRINGS" "Z", Cond.fieldLink RJ0 15 "java/lang/String" "coder" "B", Cond.methodLink RJ0 495 yJ1_charAt_3b067, Cond.static yJ1_charAt_3b067, Cond.initialized RJ1, Cond.code yJ1_charAt_3b067 cJ1_charAt_3b067 2 (some .char), Cond.methodLink RJ1 9 yJ0_checkIndex_df160, Cond.static yJ0_checkIndex_df160, Cond.code yJ0_checkIndex_df160 cJ0_checkIndex_df160 2 none, Cond.fieldLink RJ0 1053 "jdk/internal/util/Preconditions" "SIOOBE_FORMATTER" "Ljava/util/function/BiFunction;", Cond.methodLink RJ0 1059 yJ3_checkIndex_8e157, Cond.static yJ3_checkIndex_8e157, Cond.initialized RJ3, Cond.code yJ3_checkIndex_8e157 cJ3_checkIndex_8e157 3 (some .int), Cond.methodLink RJ0 498 yJ2_charAt_3b067, Cond.static yJ2_charAt_3b067, Cond.initialized RJ2, Cond.code yJ2_charAt_3b067 cJ2_charAt_3b067 2 (some .char)]
def wsJ0_charAt_5068e_r2 : List Cond := [Cond.methodLink RJ2 67 yJ2_checkIndex_2214a, Cond.static yJ2_checkIndex_2214a, Cond.code yJ2_checkIndex_2214a cJ2_checkIndex_2214a 2 none, Cond.methodLink RJ2 48 yJ2_length_9d52b, Cond.static yJ2_length_9d52b, Cond.code yJ2_length_9d52b cJ2_length_9d52b 1 (some .int), Cond.methodLink RJ2 414 yJ0_checkIndex_df160, Cond.methodLink RJ2 71 yJ2_getChar_3b067, Cond.static yJ2_getChar_3b067, Cond.code yJ2_getChar_3b067 cJ2_getChar_3b067 2 (some .char), Cond.fieldLink RJ2 44 "java/lang/StringUTF16" "$assertionsDisabled" "Z", Cond.fieldLink RJ2 59 "java/lang/StringUTF16" "HI_BYTE_SHIFT" "I", Cond.fieldLink RJ2 63 "java/lang/StringUTF16" "LO_BYTE_SHIFT" "I"]
def wsJ0_charAt_5068e : List Cond := .code yJ0_charAt_5068e cJ0_charAt_5068e 2 (some .char) :: ((wsJ0_charAt_5068e_r1 ++ wsJ0_charAt_5068e_r2))
def wsX5_lay_r1 : List Cond := [Cond.fieldLink RX5 23 "SpeaksForTheChair" "draft" "LSpeaksForTheChair$House;", Cond.fieldLink RX5 10 "SpeaksForTheChair" "page" "LSpeaksForTheChair$Page;", Cond.fieldLink RX5 91 "SpeaksForTheChair$House" "pieces" "I", Cond.fieldLink RX5 19 "SpeaksForTheChair" "laid" "LSpeaksForTheChair$House;", Cond.fieldLink RX5 29 "SpeaksForTheChair" "now" "LSpeaksForTheChair$Standing;", Cond.fieldLink RX5 94 "SpeaksForTheChair$House" "roomsAtFirst" "I", Cond.fieldLink RX5 97 "SpeaksForTheChair$House" "coins" "I", Cond.fieldLink RX5 39 "SpeaksForTheChair" "past" "LSpeaksForTheChair$Past;", Cond.fieldLink RX5 46 "SpeaksForTheChair" "sightings" "LSpeaksForTheChair$Sightings;", Cond.fieldLink RX5 106 "SpeaksForTheChair" "keptCount" "I", Cond.methodLink RX5 87 yX0_readFrom, Cond.instanceMethod yX0_readFrom, Cond.selects RX0 yX0_readFrom yX0_readFrom, Cond.initialized RX0, Cond.code yX0_readFrom cX0_readFrom 4 (some .int), Cond.fieldLink RX0 33 "SpeaksForTheChair$House" "pieces" "I", Cond.fieldLink RX0 37 "SpeaksForTheChair$House" "deeds" "I", Cond.fieldLink RX0 40 "SpeaksForTheChair$House" "roomsAtFirst" "I", Cond.fieldLink RX0 43 "SpeaksForTheChair$House" "law" "I", Cond.fieldLink RX0 46 "SpeaksForTheChair$House" "coins" "I", Cond.fieldLink RX0 49 "SpeaksForTheChair$Page" "length" "I", Cond.methodLink RX0 54 yX0_readItem, Cond.instanceMethod yX0_readItem, Cond.selects RX0 yX0_readItem yX0_readItem]
def wsX5_lay_r2 : List Cond := [Cond.code yX0_readItem cX0_readItem 8 (some .int), Cond.fieldLink RX0 30 "SpeaksForTheChair$House" "numbers" "[I", Cond.methodLink RX0 58 yX1_letterAt, Cond.instanceMethod yX1_letterAt, Cond.selects RX1 yX1_letterAt yX1_letterAt, Cond.initialized RX1, Cond.code yX1_letterAt cX1_letterAt 2 (some .int), Cond.fieldLink RX1 15 "SpeaksForTheChair$Page" "length" "I", Cond.fieldLink RX1 9 "SpeaksForTheChair$Page" "letters" "[C", Cond.methodLink RX0 62 yX0_numbersBehind, Cond.static yX0_numbersBehind, Cond.code yX0_numbersBehind cX0_numbersBehind 1 (some .int), Cond.methodLink RX0 65 yX0_figuresAt, Cond.static yX0_figuresAt, Cond.code yX0_figuresAt cX0_figuresAt 2 (some .int), Cond.methodLink RX0 76 yX0_isFigure, Cond.static yX0_isFigure, Cond.code yX0_isFigure cX0_isFigure 1 (some .boolean), Cond.methodLink RX0 68 yX0_numberAt, Cond.static yX0_numberAt, Cond.code yX0_numberAt cX0_numberAt 4 (some .int), Cond.methodLink RX0 72 yX0_takeItem, Cond.instanceMethod yX0_takeItem, Cond.selects RX0 yX0_takeItem yX0_takeItem]
def wsX5_lay_r3 : List Cond := [Cond.code yX0_takeItem cX0_takeItem 2 (some .boolean), Cond.methodLink RX0 79 yX0_takePiece, Cond.instanceMethod yX0_takePiece, Cond.selects RX0 yX0_takePiece yX0_takePiece, Cond.code yX0_takePiece cX0_takePiece 1 (some .boolean), Cond.fieldLink RX0 9 "SpeaksForTheChair$House" "kinds" "[I", Cond.fieldLink RX0 15 "SpeaksForTheChair$House" "prices" "[I", Cond.methodLink RX0 83 yX0_takeDeed, Cond.instanceMethod yX0_takeDeed, Cond.selects RX0 yX0_takeDeed yX0_takeDeed, Cond.code yX0_takeDeed cX0_takeDeed 1 (some .boolean), Cond.fieldLink RX0 18 "SpeaksForTheChair$House" "persons" "[I", Cond.fieldLink RX0 21 "SpeaksForTheChair$House" "places" "[I", Cond.fieldLink RX0 24 "SpeaksForTheChair$House" "hours" "[I", Cond.fieldLink RX0 27 "SpeaksForTheChair$House" "weights" "[I", Cond.methodLink RX0 86 yX0_takeCoins, Cond.instanceMethod yX0_takeCoins, Cond.selects RX0 yX0_takeCoins yX0_takeCoins, Cond.code yX0_takeCoins cX0_takeCoins 1 (some .boolean), Cond.methodLink RX0 89 yX0_takeLaw, Cond.instanceMethod yX0_takeLaw, Cond.selects RX0 yX0_takeLaw yX0_takeLaw, Cond.code yX0_takeLaw cX0_takeLaw 1 (some .boolean), Cond.methodLink RX5 100 yX4_begin]
def wsX5_lay_r4 : List Cond := [Cond.instanceMethod yX4_begin, Cond.selects RX4 yX4_begin yX4_begin, Cond.initialized RX4, Cond.code yX4_begin cX4_begin 3 none, Cond.fieldLink RX4 9 "SpeaksForTheChair$Standing" "rooms" "I", Cond.fieldLink RX4 15 "SpeaksForTheChair$Standing" "bought" "I", Cond.fieldLink RX4 18 "SpeaksForTheChair$Standing" "spoken" "I", Cond.fieldLink RX4 21 "SpeaksForTheChair$Standing" "out" "I", Cond.fieldLink RX4 24 "SpeaksForTheChair$Standing" "coins" "I", Cond.methodLink RX5 104 yX2_clear, Cond.instanceMethod yX2_clear, Cond.selects RX2 yX2_clear yX2_clear, Cond.initialized RX2, Cond.code yX2_clear cX2_clear 1 none, Cond.fieldLink RX2 19 "SpeaksForTheChair$Past" "depth" "I", Cond.methodLink RX5 105 yX3_clear, Cond.instanceMethod yX3_clear, Cond.selects RX3 yX3_clear yX3_clear, Cond.initialized RX3, Cond.code yX3_clear cX3_clear 1 none, Cond.fieldLink RX3 22 "SpeaksForTheChair$Sightings" "length" "I"]
def wsX5_lay : List Cond := .code yX5_lay cX5_lay 2 (some .int) :: ((wsX5_lay_r1 ++ (wsX5_lay_r2 ++ (wsX5_lay_r3 ++ wsX5_lay_r4))) ++ wsX50 ++ wsX00 ++ wsX10 ++ wsX40 ++ wsX20 ++ wsX30)
def wsX5_init_r1 : List Cond := [Cond.methodLink RX5 1 objectInit, Cond.instanceMethod objectInit, Cond.code objectInit ⟨#[0xb1]⟩ 1 none, Cond.classLink RX5 7 RX1, Cond.instantiable RX1 2, Cond.initialized RX1, Cond.fieldLink RX5 10 "SpeaksForTheChair" "page" "LSpeaksForTheChair$Page;", Cond.classLink RX5 16 RX0, Cond.instantiable RX0 12, Cond.initialized RX0, Cond.fieldLink RX5 19 "SpeaksForTheChair" "laid" "LSpeaksForTheChair$House;", Cond.fieldLink RX5 23 "SpeaksForTheChair" "draft" "LSpeaksForTheChair$House;", Cond.classLink RX5 26 RX4, Cond.instantiable RX4 5, Cond.initialized RX4, Cond.fieldLink RX5 29 "SpeaksForTheChair" "now" "LSpeaksForTheChair$Standing;", Cond.fieldLink RX5 33 "SpeaksForTheChair" "trial" "LSpeaksForTheChair$Standing;", Cond.classLink RX5 36 RX2, Cond.instantiable RX2 3, Cond.initialized RX2, Cond.fieldLink RX5 39 "SpeaksForTheChair" "past" "LSpeaksForTheChair$Past;", Cond.classLink RX5 43 RX3, Cond.instantiable RX3 4, Cond.initialized RX3]
def wsX5_init_r2 : List Cond := [Cond.fieldLink RX5 46 "SpeaksForTheChair" "sightings" "LSpeaksForTheChair$Sightings;", Cond.arrayClass .long, Cond.fieldLink RX5 50 "SpeaksForTheChair" "kept" "[J", Cond.arrayClass .int, Cond.fieldLink RX5 54 "SpeaksForTheChair" "told" "[I", Cond.instanceMethod yX1_init, Cond.code yX1_init cX1_init 1 none, Cond.methodLink RX1 3 objectInit, Cond.arrayClass .char, Cond.fieldLink RX1 9 "SpeaksForTheChair$Page" "letters" "[C", Cond.instanceMethod yX0_init, Cond.code yX0_init cX0_init 1 none, Cond.methodLink RX0 3 objectInit, Cond.fieldLink RX0 9 "SpeaksForTheChair$House" "kinds" "[I", Cond.fieldLink RX0 15 "SpeaksForTheChair$House" "prices" "[I", Cond.fieldLink RX0 18 "SpeaksForTheChair$House" "persons" "[I", Cond.fieldLink RX0 21 "SpeaksForTheChair$House" "places" "[I", Cond.fieldLink RX0 24 "SpeaksForTheChair$House" "hours" "[I", Cond.fieldLink RX0 27 "SpeaksForTheChair$House" "weights" "[I", Cond.fieldLink RX0 30 "SpeaksForTheChair$House" "numbers" "[I", Cond.instanceMethod yX4_init, Cond.code yX4_init cX4_init 1 none, Cond.methodLink RX4 3 objectInit, Cond.instanceMethod yX2_init]
def wsX5_init_r3 : List Cond := [Cond.code yX2_init cX2_init 1 none, Cond.methodLink RX2 3 objectInit, Cond.fieldLink RX2 9 "SpeaksForTheChair$Past" "ring" "[J", Cond.instanceMethod yX3_init, Cond.code yX3_init cX3_init 1 none, Cond.methodLink RX3 3 objectInit, Cond.fieldLink RX3 9 "SpeaksForTheChair$Sightings" "pieces" "[I", Cond.fieldLink RX3 15 "SpeaksForTheChair$Sightings" "deeds" "[I", Cond.arrayClass .boolean, Cond.fieldLink RX3 18 "SpeaksForTheChair$Sightings" "tells" "[Z", Cond.methodLink RX5 60 yJ0_length_8abf5, Cond.instanceMethod yJ0_length_8abf5, Cond.selects RJ0 yJ0_length_8abf5 yJ0_length_8abf5, Cond.initialized RJ0, Cond.code yJ0_length_8abf5 cJ0_length_8abf5 1 (some .int), Cond.fieldLink RJ0 9 "java/lang/String" "value" "[B", Cond.methodLink RJ0 335 yJ0_coder_7d493, Cond.instanceMethod yJ0_coder_7d493, Cond.selects RJ0 yJ0_coder_7d493 yJ0_coder_7d493, Cond.code yJ0_coder_7d493 cJ0_coder_7d493 1 (some .byte), Cond.fieldLink RJ0 38 "java/lang/String" "COMPACT_STRINGS" "Z", Cond.fieldLink RJ0 15 "java/lang/String" "coder" "B", Cond.methodLink RX5 66 yJ0_charAt_5068e, Cond.instanceMethod yJ0_charAt_5068e]
def wsX5_init_r4 : List Cond := [Cond.selects RJ0 yJ0_charAt_5068e yJ0_charAt_5068e, Cond.code yJ0_charAt_5068e cJ0_charAt_5068e 2 (some .char), Cond.methodLink RJ0 492 yJ0_isLatin1_aae02, Cond.instanceMethod yJ0_isLatin1_aae02, Cond.selects RJ0 yJ0_isLatin1_aae02 yJ0_isLatin1_aae02, Cond.code yJ0_isLatin1_aae02 cJ0_isLatin1_aae02 1 (some .boolean), Cond.methodLink RJ0 495 yJ1_charAt_3b067, Cond.static yJ1_charAt_3b067, Cond.initialized RJ1, Cond.code yJ1_charAt_3b067 cJ1_charAt_3b067 2 (some .char), Cond.methodLink RJ1 9 yJ0_checkIndex_df160, Cond.static yJ0_checkIndex_df160, Cond.code yJ0_checkIndex_df160 cJ0_checkIndex_df160 2 none, Cond.fieldLink RJ0 1053 "jdk/internal/util/Preconditions" "SIOOBE_FORMATTER" "Ljava/util/function/BiFunction;", Cond.methodLink RJ0 1059 yJ3_checkIndex_8e157, Cond.static yJ3_checkIndex_8e157, Cond.initialized RJ3, Cond.code yJ3_checkIndex_8e157 cJ3_checkIndex_8e157 3 (some .int), Cond.methodLink RJ0 498 yJ2_charAt_3b067, Cond.static yJ2_charAt_3b067, Cond.initialized RJ2, Cond.code yJ2_charAt_3b067 cJ2_charAt_3b067 2 (some .char), Cond.methodLink RJ2 67 yJ2_checkIndex_2214a, Cond.static yJ2_checkIndex_2214a]
def wsX5_init_r5 : List Cond := [Cond.code yJ2_checkIndex_2214a cJ2_checkIndex_2214a 2 none, Cond.methodLink RJ2 48 yJ2_length_9d52b, Cond.static yJ2_length_9d52b, Cond.code yJ2_length_9d52b cJ2_length_9d52b 1 (some .int), Cond.methodLink RJ2 414 yJ0_checkIndex_df160, Cond.methodLink RJ2 71 yJ2_getChar_3b067, Cond.static yJ2_getChar_3b067, Cond.code yJ2_getChar_3b067 cJ2_getChar_3b067 2 (some .char), Cond.fieldLink RJ2 44 "java/lang/StringUTF16" "$assertionsDisabled" "Z", Cond.fieldLink RJ2 59 "java/lang/StringUTF16" "HI_BYTE_SHIFT" "I", Cond.fieldLink RJ2 63 "java/lang/StringUTF16" "LO_BYTE_SHIFT" "I", Cond.methodLink RX5 70 yX1_add, Cond.instanceMethod yX1_add, Cond.selects RX1 yX1_add yX1_add, Cond.code yX1_add cX1_add 2 (some .boolean), Cond.fieldLink RX1 15 "SpeaksForTheChair$Page" "length" "I", Cond.methodLink RX5 74 yX5_lay, Cond.instanceMethod yX5_lay, Cond.selects RX5 yX5_lay yX5_lay, Cond.initialized RX5, Cond.code yX5_lay cX5_lay 2 (some .int), Cond.fieldLink RX5 91 "SpeaksForTheChair$House" "pieces" "I", Cond.fieldLink RX5 94 "SpeaksForTheChair$House" "roomsAtFirst" "I", Cond.fieldLink RX5 97 "SpeaksForTheChair$House" "coins" "I"]
def wsX5_init_r6 : List Cond := [Cond.fieldLink RX5 106 "SpeaksForTheChair" "keptCount" "I", Cond.methodLink RX5 87 yX0_readFrom, Cond.instanceMethod yX0_readFrom, Cond.selects RX0 yX0_readFrom yX0_readFrom, Cond.code yX0_readFrom cX0_readFrom 4 (some .int), Cond.fieldLink RX0 33 "SpeaksForTheChair$House" "pieces" "I", Cond.fieldLink RX0 37 "SpeaksForTheChair$House" "deeds" "I", Cond.fieldLink RX0 40 "SpeaksForTheChair$House" "roomsAtFirst" "I", Cond.fieldLink RX0 43 "SpeaksForTheChair$House" "law" "I", Cond.fieldLink RX0 46 "SpeaksForTheChair$House" "coins" "I", Cond.fieldLink RX0 49 "SpeaksForTheChair$Page" "length" "I", Cond.methodLink RX0 54 yX0_readItem, Cond.instanceMethod yX0_readItem, Cond.selects RX0 yX0_readItem yX0_readItem, Cond.code yX0_readItem cX0_readItem 8 (some .int), Cond.methodLink RX0 58 yX1_letterAt, Cond.instanceMethod yX1_letterAt, Cond.selects RX1 yX1_letterAt yX1_letterAt, Cond.code yX1_letterAt cX1_letterAt 2 (some .int), Cond.methodLink RX0 62 yX0_numbersBehind, Cond.static yX0_numbersBehind, Cond.code yX0_numbersBehind cX0_numbersBehind 1 (some .int), Cond.methodLink RX0 65 yX0_figuresAt, Cond.static yX0_figuresAt]
def wsX5_init_r7 : List Cond := [Cond.code yX0_figuresAt cX0_figuresAt 2 (some .int), Cond.methodLink RX0 76 yX0_isFigure, Cond.static yX0_isFigure, Cond.code yX0_isFigure cX0_isFigure 1 (some .boolean), Cond.methodLink RX0 68 yX0_numberAt, Cond.static yX0_numberAt, Cond.code yX0_numberAt cX0_numberAt 4 (some .int), Cond.methodLink RX0 72 yX0_takeItem, Cond.instanceMethod yX0_takeItem, Cond.selects RX0 yX0_takeItem yX0_takeItem, Cond.code yX0_takeItem cX0_takeItem 2 (some .boolean), Cond.methodLink RX0 79 yX0_takePiece, Cond.instanceMethod yX0_takePiece, Cond.selects RX0 yX0_takePiece yX0_takePiece, Cond.code yX0_takePiece cX0_takePiece 1 (some .boolean), Cond.methodLink RX0 83 yX0_takeDeed, Cond.instanceMethod yX0_takeDeed, Cond.selects RX0 yX0_takeDeed yX0_takeDeed, Cond.code yX0_takeDeed cX0_takeDeed 1 (some .boolean), Cond.methodLink RX0 86 yX0_takeCoins, Cond.instanceMethod yX0_takeCoins, Cond.selects RX0 yX0_takeCoins yX0_takeCoins, Cond.code yX0_takeCoins cX0_takeCoins 1 (some .boolean), Cond.methodLink RX0 89 yX0_takeLaw]
def wsX5_init_r8 : List Cond := [Cond.instanceMethod yX0_takeLaw, Cond.selects RX0 yX0_takeLaw yX0_takeLaw, Cond.code yX0_takeLaw cX0_takeLaw 1 (some .boolean), Cond.methodLink RX5 100 yX4_begin, Cond.instanceMethod yX4_begin, Cond.selects RX4 yX4_begin yX4_begin, Cond.code yX4_begin cX4_begin 3 none, Cond.fieldLink RX4 9 "SpeaksForTheChair$Standing" "rooms" "I", Cond.fieldLink RX4 15 "SpeaksForTheChair$Standing" "bought" "I", Cond.fieldLink RX4 18 "SpeaksForTheChair$Standing" "spoken" "I", Cond.fieldLink RX4 21 "SpeaksForTheChair$Standing" "out" "I", Cond.fieldLink RX4 24 "SpeaksForTheChair$Standing" "coins" "I", Cond.methodLink RX5 104 yX2_clear, Cond.instanceMethod yX2_clear, Cond.selects RX2 yX2_clear yX2_clear, Cond.code yX2_clear cX2_clear 1 none, Cond.fieldLink RX2 19 "SpeaksForTheChair$Past" "depth" "I", Cond.methodLink RX5 105 yX3_clear, Cond.instanceMethod yX3_clear, Cond.selects RX3 yX3_clear yX3_clear, Cond.code yX3_clear cX3_clear 1 none, Cond.fieldLink RX3 22 "SpeaksForTheChair$Sightings" "length" "I", Cond.methodLink RX5 77 yX1_clear, Cond.instanceMethod yX1_clear]
def wsX5_init_r9 : List Cond := [Cond.selects RX1 yX1_clear yX1_clear, Cond.code yX1_clear cX1_clear 1 none]
def wsX5_init : List Cond := .code yX5_init cX5_init 2 none :: ((wsX5_init_r1 ++ (wsX5_init_r2 ++ (wsX5_init_r3 ++ (wsX5_init_r4 ++ (wsX5_init_r5 ++ (wsX5_init_r6 ++ (wsX5_init_r7 ++ (wsX5_init_r8 ++ wsX5_init_r9)))))))) ++ wsX10 ++ wsX50 ++ wsX00 ++ wsX40 ++ wsX20 ++ wsX30)
def wsX5_isWithin : List Cond := .code yX5_isWithin cX5_isWithin 3 (some .boolean) :: ([])
def wsX5_write : List Cond := .code yX5_write cX5_write 2 (some .int) :: ([.fieldLink RX5 10 "SpeaksForTheChair" "page" "LSpeaksForTheChair$Page;", .fieldLink RX5 84 "SpeaksForTheChair$Page" "length" "I", .methodLink RX5 80 yX5_isWithin, .static yX5_isWithin, .initialized RX5, .code yX5_isWithin cX5_isWithin 3 (some .boolean), .methodLink RX5 70 yX1_add, .instanceMethod yX1_add, .selects RX1 yX1_add yX1_add, .initialized RX1, .code yX1_add cX1_add 2 (some .boolean), .fieldLink RX1 15 "SpeaksForTheChair$Page" "length" "I", .fieldLink RX1 9 "SpeaksForTheChair$Page" "letters" "[C"] ++ wsX50 ++ wsX10)
def wsX5_wipe : List Cond := .code yX5_wipe cX5_wipe 2 (some .int) :: ([.fieldLink RX5 10 "SpeaksForTheChair" "page" "LSpeaksForTheChair$Page;", .fieldLink RX5 84 "SpeaksForTheChair$Page" "length" "I", .methodLink RX5 77 yX1_clear, .instanceMethod yX1_clear, .selects RX1 yX1_clear yX1_clear, .initialized RX1, .code yX1_clear cX1_clear 1 none, .fieldLink RX1 15 "SpeaksForTheChair$Page" "length" "I"] ++ wsX50 ++ wsX10)
def wsX5_fault_r1 : List Cond := [Cond.fieldLink RX5 23 "SpeaksForTheChair" "draft" "LSpeaksForTheChair$House;", Cond.fieldLink RX5 10 "SpeaksForTheChair" "page" "LSpeaksForTheChair$Page;", Cond.methodLink RX5 87 yX0_readFrom, Cond.instanceMethod yX0_readFrom, Cond.selects RX0 yX0_readFrom yX0_readFrom, Cond.initialized RX0, Cond.code yX0_readFrom cX0_readFrom 4 (some .int), Cond.fieldLink RX0 33 "SpeaksForTheChair$House" "pieces" "I", Cond.fieldLink RX0 37 "SpeaksForTheChair$House" "deeds" "I", Cond.fieldLink RX0 40 "SpeaksForTheChair$House" "roomsAtFirst" "I", Cond.fieldLink RX0 43 "SpeaksForTheChair$House" "law" "I", Cond.fieldLink RX0 46 "SpeaksForTheChair$House" "coins" "I", Cond.fieldLink RX0 49 "SpeaksForTheChair$Page" "length" "I", Cond.methodLink RX0 54 yX0_readItem, Cond.instanceMethod yX0_readItem, Cond.selects RX0 yX0_readItem yX0_readItem, Cond.code yX0_readItem cX0_readItem 8 (some .int), Cond.fieldLink RX0 30 "SpeaksForTheChair$House" "numbers" "[I", Cond.methodLink RX0 58 yX1_letterAt, Cond.instanceMethod yX1_letterAt, Cond.selects RX1 yX1_letterAt yX1_letterAt, Cond.initialized RX1, Cond.code yX1_letterAt cX1_letterAt 2 (some .int), Cond.fieldLink RX1 15 "SpeaksForTheChair$Page" "length" "I"]
def wsX5_fault_r2 : List Cond := [Cond.fieldLink RX1 9 "SpeaksForTheChair$Page" "letters" "[C", Cond.methodLink RX0 62 yX0_numbersBehind, Cond.static yX0_numbersBehind, Cond.code yX0_numbersBehind cX0_numbersBehind 1 (some .int), Cond.methodLink RX0 65 yX0_figuresAt, Cond.static yX0_figuresAt, Cond.code yX0_figuresAt cX0_figuresAt 2 (some .int), Cond.methodLink RX0 76 yX0_isFigure, Cond.static yX0_isFigure, Cond.code yX0_isFigure cX0_isFigure 1 (some .boolean), Cond.methodLink RX0 68 yX0_numberAt, Cond.static yX0_numberAt, Cond.code yX0_numberAt cX0_numberAt 4 (some .int), Cond.methodLink RX0 72 yX0_takeItem, Cond.instanceMethod yX0_takeItem, Cond.selects RX0 yX0_takeItem yX0_takeItem, Cond.code yX0_takeItem cX0_takeItem 2 (some .boolean), Cond.methodLink RX0 79 yX0_takePiece, Cond.instanceMethod yX0_takePiece, Cond.selects RX0 yX0_takePiece yX0_takePiece, Cond.code yX0_takePiece cX0_takePiece 1 (some .boolean), Cond.fieldLink RX0 9 "SpeaksForTheChair$House" "kinds" "[I", Cond.fieldLink RX0 15 "SpeaksForTheChair$House" "prices" "[I", Cond.methodLink RX0 83 yX0_takeDeed]
def wsX5_fault_r3 : List Cond := [Cond.instanceMethod yX0_takeDeed, Cond.selects RX0 yX0_takeDeed yX0_takeDeed, Cond.code yX0_takeDeed cX0_takeDeed 1 (some .boolean), Cond.fieldLink RX0 18 "SpeaksForTheChair$House" "persons" "[I", Cond.fieldLink RX0 21 "SpeaksForTheChair$House" "places" "[I", Cond.fieldLink RX0 24 "SpeaksForTheChair$House" "hours" "[I", Cond.fieldLink RX0 27 "SpeaksForTheChair$House" "weights" "[I", Cond.methodLink RX0 86 yX0_takeCoins, Cond.instanceMethod yX0_takeCoins, Cond.selects RX0 yX0_takeCoins yX0_takeCoins, Cond.code yX0_takeCoins cX0_takeCoins 1 (some .boolean), Cond.methodLink RX0 89 yX0_takeLaw, Cond.instanceMethod yX0_takeLaw, Cond.selects RX0 yX0_takeLaw yX0_takeLaw, Cond.code yX0_takeLaw cX0_takeLaw 1 (some .boolean)]
def wsX5_fault : List Cond := .code yX5_fault cX5_fault 1 (some .int) :: ((wsX5_fault_r1 ++ (wsX5_fault_r2 ++ wsX5_fault_r3)) ++ wsX50 ++ wsX00 ++ wsX10)
def wsX5_isPiece : List Cond := .code yX5_isPiece cX5_isPiece 2 (some .boolean) :: ([.fieldLink RX5 19 "SpeaksForTheChair" "laid" "LSpeaksForTheChair$House;", .fieldLink RX5 91 "SpeaksForTheChair$House" "pieces" "I", .methodLink RX5 80 yX5_isWithin, .static yX5_isWithin, .initialized RX5, .code yX5_isWithin cX5_isWithin 3 (some .boolean)] ++ wsX50 ++ wsX00)
def wsX5_isLoose : List Cond := .code yX5_isLoose cX5_isLoose 3 (some .boolean) :: ([.fieldLink RX5 19 "SpeaksForTheChair" "laid" "LSpeaksForTheChair$House;", .fieldLink RX5 113 "SpeaksForTheChair$House" "kinds" "[I", .methodLink RX5 123 yX4_howIs, .instanceMethod yX4_howIs, .selects RX4 yX4_howIs yX4_howIs, .initialized RX4, .code yX4_howIs cX4_howIs 2 (some .int), .fieldLink RX4 18 "SpeaksForTheChair$Standing" "spoken" "I", .fieldLink RX4 15 "SpeaksForTheChair$Standing" "bought" "I", .methodLink RX5 256 yX0_forbids, .instanceMethod yX0_forbids, .selects RX0 yX0_forbids yX0_forbids, .initialized RX0, .code yX0_forbids cX0_forbids 2 (some .boolean), .fieldLink RX0 43 "SpeaksForTheChair$House" "law" "I"] ++ wsX50 ++ wsX00 ++ wsX40)
def wsX5_piece_r1 : List Cond := [Cond.fieldLink RX5 19 "SpeaksForTheChair" "laid" "LSpeaksForTheChair$House;", Cond.fieldLink RX5 113 "SpeaksForTheChair$House" "kinds" "[I", Cond.fieldLink RX5 29 "SpeaksForTheChair" "now" "LSpeaksForTheChair$Standing;", Cond.fieldLink RX5 120 "SpeaksForTheChair$House" "prices" "[I", Cond.methodLink RX5 109 yX5_isPiece, Cond.instanceMethod yX5_isPiece, Cond.selects RX5 yX5_isPiece yX5_isPiece, Cond.initialized RX5, Cond.code yX5_isPiece cX5_isPiece 2 (some .boolean), Cond.fieldLink RX5 91 "SpeaksForTheChair$House" "pieces" "I", Cond.methodLink RX5 80 yX5_isWithin, Cond.static yX5_isWithin, Cond.code yX5_isWithin cX5_isWithin 3 (some .boolean), Cond.methodLink RX5 116 yX4_roomOf, Cond.instanceMethod yX4_roomOf, Cond.selects RX4 yX4_roomOf yX4_roomOf, Cond.initialized RX4, Cond.code yX4_roomOf cX4_roomOf 2 (some .int), Cond.fieldLink RX4 9 "SpeaksForTheChair$Standing" "rooms" "I", Cond.methodLink RX5 123 yX4_howIs, Cond.instanceMethod yX4_howIs, Cond.selects RX4 yX4_howIs yX4_howIs, Cond.code yX4_howIs cX4_howIs 2 (some .int), Cond.fieldLink RX4 18 "SpeaksForTheChair$Standing" "spoken" "I"]
def wsX5_piece_r2 : List Cond := [Cond.fieldLink RX4 15 "SpeaksForTheChair$Standing" "bought" "I", Cond.methodLink RX5 126 yX0_toldBy, Cond.instanceMethod yX0_toldBy, Cond.selects RX0 yX0_toldBy yX0_toldBy, Cond.initialized RX0, Cond.code yX0_toldBy cX0_toldBy 5 (some .int), Cond.fieldLink RX0 37 "SpeaksForTheChair$House" "deeds" "I", Cond.fieldLink RX0 21 "SpeaksForTheChair$House" "places" "[I", Cond.fieldLink RX0 9 "SpeaksForTheChair$House" "kinds" "[I", Cond.fieldLink RX0 24 "SpeaksForTheChair$House" "hours" "[I", Cond.fieldLink RX0 27 "SpeaksForTheChair$House" "weights" "[I", Cond.methodLink RX0 92 yX0_wouldTell, Cond.instanceMethod yX0_wouldTell, Cond.selects RX0 yX0_wouldTell yX0_wouldTell, Cond.code yX0_wouldTell cX0_wouldTell 6 (some .boolean), Cond.methodLink RX0 96 yX0_laterOnes, Cond.instanceMethod yX0_laterOnes, Cond.selects RX0 yX0_laterOnes yX0_laterOnes, Cond.code yX0_laterOnes cX0_laterOnes 7 (some .int), Cond.methodLink RX5 130 yX5_isLoose, Cond.instanceMethod yX5_isLoose, Cond.selects RX5 yX5_isLoose yX5_isLoose, Cond.code yX5_isLoose cX5_isLoose 3 (some .boolean), Cond.methodLink RX5 256 yX0_forbids]
def wsX5_piece_r3 : List Cond := [Cond.instanceMethod yX0_forbids, Cond.selects RX0 yX0_forbids yX0_forbids, Cond.code yX0_forbids cX0_forbids 2 (some .boolean), Cond.fieldLink RX0 43 "SpeaksForTheChair$House" "law" "I"]
def wsX5_piece : List Cond := .code yX5_piece cX5_piece 3 (some .int) :: ((wsX5_piece_r1 ++ (wsX5_piece_r2 ++ wsX5_piece_r3)) ++ wsX50 ++ wsX00 ++ wsX40)
def wsX5_isDeed : List Cond := .code yX5_isDeed cX5_isDeed 2 (some .boolean) :: ([.fieldLink RX5 19 "SpeaksForTheChair" "laid" "LSpeaksForTheChair$House;", .fieldLink RX5 220 "SpeaksForTheChair$House" "deeds" "I", .methodLink RX5 80 yX5_isWithin, .static yX5_isWithin, .initialized RX5, .code yX5_isWithin cX5_isWithin 3 (some .boolean)] ++ wsX50 ++ wsX00)
def wsX5_hasComeOut : List Cond := .code yX5_hasComeOut cX5_hasComeOut 2 (some .boolean) :: ([.fieldLink RX5 29 "SpeaksForTheChair" "now" "LSpeaksForTheChair$Standing;", .fieldLink RX5 191 "SpeaksForTheChair$Standing" "out" "I"] ++ wsX50 ++ wsX40)
def wsX5_looseTellers_r1 : List Cond := [Cond.fieldLink RX5 19 "SpeaksForTheChair" "laid" "LSpeaksForTheChair$House;", Cond.fieldLink RX5 91 "SpeaksForTheChair$House" "pieces" "I", Cond.fieldLink RX5 29 "SpeaksForTheChair" "now" "LSpeaksForTheChair$Standing;", Cond.methodLink RX5 130 yX5_isLoose, Cond.instanceMethod yX5_isLoose, Cond.selects RX5 yX5_isLoose yX5_isLoose, Cond.initialized RX5, Cond.code yX5_isLoose cX5_isLoose 3 (some .boolean), Cond.fieldLink RX5 113 "SpeaksForTheChair$House" "kinds" "[I", Cond.methodLink RX5 123 yX4_howIs, Cond.instanceMethod yX4_howIs, Cond.selects RX4 yX4_howIs yX4_howIs, Cond.initialized RX4, Cond.code yX4_howIs cX4_howIs 2 (some .int), Cond.fieldLink RX4 18 "SpeaksForTheChair$Standing" "spoken" "I", Cond.fieldLink RX4 15 "SpeaksForTheChair$Standing" "bought" "I", Cond.methodLink RX5 256 yX0_forbids, Cond.instanceMethod yX0_forbids, Cond.selects RX0 yX0_forbids yX0_forbids, Cond.initialized RX0, Cond.code yX0_forbids cX0_forbids 2 (some .boolean), Cond.fieldLink RX0 43 "SpeaksForTheChair$House" "law" "I", Cond.methodLink RX5 116 yX4_roomOf, Cond.instanceMethod yX4_roomOf]
def wsX5_looseTellers_r2 : List Cond := [Cond.selects RX4 yX4_roomOf yX4_roomOf, Cond.code yX4_roomOf cX4_roomOf 2 (some .int), Cond.fieldLink RX4 9 "SpeaksForTheChair$Standing" "rooms" "I", Cond.methodLink RX5 126 yX0_toldBy, Cond.instanceMethod yX0_toldBy, Cond.selects RX0 yX0_toldBy yX0_toldBy, Cond.code yX0_toldBy cX0_toldBy 5 (some .int), Cond.fieldLink RX0 37 "SpeaksForTheChair$House" "deeds" "I", Cond.fieldLink RX0 21 "SpeaksForTheChair$House" "places" "[I", Cond.fieldLink RX0 9 "SpeaksForTheChair$House" "kinds" "[I", Cond.fieldLink RX0 24 "SpeaksForTheChair$House" "hours" "[I", Cond.fieldLink RX0 27 "SpeaksForTheChair$House" "weights" "[I", Cond.methodLink RX0 92 yX0_wouldTell, Cond.instanceMethod yX0_wouldTell, Cond.selects RX0 yX0_wouldTell yX0_wouldTell, Cond.code yX0_wouldTell cX0_wouldTell 6 (some .boolean), Cond.methodLink RX0 96 yX0_laterOnes, Cond.instanceMethod yX0_laterOnes, Cond.selects RX0 yX0_laterOnes yX0_laterOnes, Cond.code yX0_laterOnes cX0_laterOnes 7 (some .int)]
def wsX5_looseTellers : List Cond := .code yX5_looseTellers cX5_looseTellers 4 (some .int) :: ((wsX5_looseTellers_r1 ++ wsX5_looseTellers_r2) ++ wsX50 ++ wsX00 ++ wsX40)
def wsX5_deed_r1 : List Cond := [Cond.fieldLink RX5 19 "SpeaksForTheChair" "laid" "LSpeaksForTheChair$House;", Cond.fieldLink RX5 137 "SpeaksForTheChair$House" "persons" "[I", Cond.fieldLink RX5 140 "SpeaksForTheChair$House" "places" "[I", Cond.fieldLink RX5 143 "SpeaksForTheChair$House" "hours" "[I", Cond.fieldLink RX5 146 "SpeaksForTheChair$House" "weights" "[I", Cond.methodLink RX5 134 yX5_isDeed, Cond.instanceMethod yX5_isDeed, Cond.selects RX5 yX5_isDeed yX5_isDeed, Cond.initialized RX5, Cond.code yX5_isDeed cX5_isDeed 2 (some .boolean), Cond.fieldLink RX5 220 "SpeaksForTheChair$House" "deeds" "I", Cond.methodLink RX5 80 yX5_isWithin, Cond.static yX5_isWithin, Cond.code yX5_isWithin cX5_isWithin 3 (some .boolean), Cond.methodLink RX5 149 yX5_hasComeOut, Cond.instanceMethod yX5_hasComeOut, Cond.selects RX5 yX5_hasComeOut yX5_hasComeOut, Cond.code yX5_hasComeOut cX5_hasComeOut 2 (some .boolean), Cond.fieldLink RX5 29 "SpeaksForTheChair" "now" "LSpeaksForTheChair$Standing;", Cond.fieldLink RX5 191 "SpeaksForTheChair$Standing" "out" "I", Cond.methodLink RX5 152 yX5_looseTellers, Cond.instanceMethod yX5_looseTellers, Cond.selects RX5 yX5_looseTellers yX5_looseTellers, Cond.code yX5_looseTellers cX5_looseTellers 4 (some .int)]
def wsX5_deed_r2 : List Cond := [Cond.fieldLink RX5 91 "SpeaksForTheChair$House" "pieces" "I", Cond.methodLink RX5 130 yX5_isLoose, Cond.instanceMethod yX5_isLoose, Cond.selects RX5 yX5_isLoose yX5_isLoose, Cond.code yX5_isLoose cX5_isLoose 3 (some .boolean), Cond.fieldLink RX5 113 "SpeaksForTheChair$House" "kinds" "[I", Cond.methodLink RX5 123 yX4_howIs, Cond.instanceMethod yX4_howIs, Cond.selects RX4 yX4_howIs yX4_howIs, Cond.initialized RX4, Cond.code yX4_howIs cX4_howIs 2 (some .int), Cond.fieldLink RX4 18 "SpeaksForTheChair$Standing" "spoken" "I", Cond.fieldLink RX4 15 "SpeaksForTheChair$Standing" "bought" "I", Cond.methodLink RX5 256 yX0_forbids, Cond.instanceMethod yX0_forbids, Cond.selects RX0 yX0_forbids yX0_forbids, Cond.initialized RX0, Cond.code yX0_forbids cX0_forbids 2 (some .boolean), Cond.fieldLink RX0 43 "SpeaksForTheChair$House" "law" "I", Cond.methodLink RX5 116 yX4_roomOf, Cond.instanceMethod yX4_roomOf, Cond.selects RX4 yX4_roomOf yX4_roomOf, Cond.code yX4_roomOf cX4_roomOf 2 (some .int), Cond.fieldLink RX4 9 "SpeaksForTheChair$Standing" "rooms" "I"]
def wsX5_deed_r3 : List Cond := [Cond.methodLink RX5 126 yX0_toldBy, Cond.instanceMethod yX0_toldBy, Cond.selects RX0 yX0_toldBy yX0_toldBy, Cond.code yX0_toldBy cX0_toldBy 5 (some .int), Cond.fieldLink RX0 37 "SpeaksForTheChair$House" "deeds" "I", Cond.fieldLink RX0 21 "SpeaksForTheChair$House" "places" "[I", Cond.fieldLink RX0 9 "SpeaksForTheChair$House" "kinds" "[I", Cond.fieldLink RX0 24 "SpeaksForTheChair$House" "hours" "[I", Cond.fieldLink RX0 27 "SpeaksForTheChair$House" "weights" "[I", Cond.methodLink RX0 92 yX0_wouldTell, Cond.instanceMethod yX0_wouldTell, Cond.selects RX0 yX0_wouldTell yX0_wouldTell, Cond.code yX0_wouldTell cX0_wouldTell 6 (some .boolean), Cond.methodLink RX0 96 yX0_laterOnes, Cond.instanceMethod yX0_laterOnes, Cond.selects RX0 yX0_laterOnes yX0_laterOnes, Cond.code yX0_laterOnes cX0_laterOnes 7 (some .int)]
def wsX5_deed : List Cond := .code yX5_deed cX5_deed 3 (some .int) :: ((wsX5_deed_r1 ++ (wsX5_deed_r2 ++ wsX5_deed_r3)) ++ wsX50 ++ wsX00 ++ wsX40)
def wsX5_speak_r1 : List Cond := [Cond.fieldLink RX5 29 "SpeaksForTheChair" "now" "LSpeaksForTheChair$Standing;", Cond.fieldLink RX5 39 "SpeaksForTheChair" "past" "LSpeaksForTheChair$Past;", Cond.fieldLink RX5 19 "SpeaksForTheChair" "laid" "LSpeaksForTheChair$House;", Cond.methodLink RX5 109 yX5_isPiece, Cond.instanceMethod yX5_isPiece, Cond.selects RX5 yX5_isPiece yX5_isPiece, Cond.initialized RX5, Cond.code yX5_isPiece cX5_isPiece 2 (some .boolean), Cond.fieldLink RX5 91 "SpeaksForTheChair$House" "pieces" "I", Cond.methodLink RX5 80 yX5_isWithin, Cond.static yX5_isWithin, Cond.code yX5_isWithin cX5_isWithin 3 (some .boolean), Cond.methodLink RX5 130 yX5_isLoose, Cond.instanceMethod yX5_isLoose, Cond.selects RX5 yX5_isLoose yX5_isLoose, Cond.code yX5_isLoose cX5_isLoose 3 (some .boolean), Cond.fieldLink RX5 113 "SpeaksForTheChair$House" "kinds" "[I", Cond.methodLink RX5 123 yX4_howIs, Cond.instanceMethod yX4_howIs, Cond.selects RX4 yX4_howIs yX4_howIs, Cond.initialized RX4, Cond.code yX4_howIs cX4_howIs 2 (some .int), Cond.fieldLink RX4 18 "SpeaksForTheChair$Standing" "spoken" "I", Cond.fieldLink RX4 15 "SpeaksForTheChair$Standing" "bought" "I"]
def wsX5_speak_r2 : List Cond := [Cond.methodLink RX5 256 yX0_forbids, Cond.instanceMethod yX0_forbids, Cond.selects RX0 yX0_forbids yX0_forbids, Cond.initialized RX0, Cond.code yX0_forbids cX0_forbids 2 (some .boolean), Cond.fieldLink RX0 43 "SpeaksForTheChair$House" "law" "I", Cond.methodLink RX5 155 yX4_packed, Cond.instanceMethod yX4_packed, Cond.selects RX4 yX4_packed yX4_packed, Cond.code yX4_packed cX4_packed 1 (some .long), Cond.fieldLink RX4 24 "SpeaksForTheChair$Standing" "coins" "I", Cond.fieldLink RX4 21 "SpeaksForTheChair$Standing" "out" "I", Cond.fieldLink RX4 9 "SpeaksForTheChair$Standing" "rooms" "I", Cond.methodLink RX5 159 yX2_push, Cond.instanceMethod yX2_push, Cond.selects RX2 yX2_push yX2_push, Cond.initialized RX2, Cond.code yX2_push cX2_push 3 none, Cond.fieldLink RX2 9 "SpeaksForTheChair$Past" "ring" "[J", Cond.fieldLink RX2 15 "SpeaksForTheChair$Past" "next" "I", Cond.fieldLink RX2 19 "SpeaksForTheChair$Past" "depth" "I", Cond.methodLink RX2 22 Lib.Math.min.name, Cond.static Lib.Math.min.name, Cond.initialized "java/lang/Math"]
def wsX5_speak_r3 : List Cond := [Cond.code Lib.Math.min.name Lib.Math.min.code 2 (some .int), Cond.methodLink RX5 116 yX4_roomOf, Cond.instanceMethod yX4_roomOf, Cond.selects RX4 yX4_roomOf yX4_roomOf, Cond.code yX4_roomOf cX4_roomOf 2 (some .int), Cond.methodLink RX5 126 yX0_toldBy, Cond.instanceMethod yX0_toldBy, Cond.selects RX0 yX0_toldBy yX0_toldBy, Cond.code yX0_toldBy cX0_toldBy 5 (some .int), Cond.fieldLink RX0 37 "SpeaksForTheChair$House" "deeds" "I", Cond.fieldLink RX0 21 "SpeaksForTheChair$House" "places" "[I", Cond.fieldLink RX0 9 "SpeaksForTheChair$House" "kinds" "[I", Cond.fieldLink RX0 24 "SpeaksForTheChair$House" "hours" "[I", Cond.fieldLink RX0 27 "SpeaksForTheChair$House" "weights" "[I", Cond.methodLink RX0 92 yX0_wouldTell, Cond.instanceMethod yX0_wouldTell, Cond.selects RX0 yX0_wouldTell yX0_wouldTell, Cond.code yX0_wouldTell cX0_wouldTell 6 (some .boolean), Cond.methodLink RX0 96 yX0_laterOnes, Cond.instanceMethod yX0_laterOnes, Cond.selects RX0 yX0_laterOnes yX0_laterOnes, Cond.code yX0_laterOnes cX0_laterOnes 7 (some .int), Cond.methodLink RX5 163 yX4_letSpeak, Cond.instanceMethod yX4_letSpeak]
def wsX5_speak_r4 : List Cond := [Cond.selects RX4 yX4_letSpeak yX4_letSpeak, Cond.code yX4_letSpeak cX4_letSpeak 4 (some .int), Cond.methodLink RX4 31 yJ6_bitCount_0f7a4, Cond.static yJ6_bitCount_0f7a4, Cond.initialized RJ6, Cond.code yJ6_bitCount_0f7a4 cJ6_bitCount_0f7a4 1 (some .int), Cond.constant RJ6 265 (1431655765), Cond.constant RJ6 266 (858993459), Cond.constant RJ6 267 (252645135)]
def wsX5_speak : List Cond := .code yX5_speak cX5_speak 2 (some .int) :: ((wsX5_speak_r1 ++ (wsX5_speak_r2 ++ (wsX5_speak_r3 ++ wsX5_speak_r4))) ++ wsX50 ++ wsX00 ++ wsX40 ++ wsX20)
def wsX5_canBeBought : List Cond := .code yX5_canBeBought cX5_canBeBought 3 (some .boolean) :: ([.fieldLink RX5 19 "SpeaksForTheChair" "laid" "LSpeaksForTheChair$House;", .fieldLink RX5 120 "SpeaksForTheChair$House" "prices" "[I", .fieldLink RX5 172 "SpeaksForTheChair$Standing" "coins" "I", .methodLink RX5 123 yX4_howIs, .instanceMethod yX4_howIs, .selects RX4 yX4_howIs yX4_howIs, .initialized RX4, .code yX4_howIs cX4_howIs 2 (some .int), .fieldLink RX4 18 "SpeaksForTheChair$Standing" "spoken" "I", .fieldLink RX4 15 "SpeaksForTheChair$Standing" "bought" "I"] ++ wsX50 ++ wsX00 ++ wsX40)
def wsX5_buy_r1 : List Cond := [Cond.fieldLink RX5 29 "SpeaksForTheChair" "now" "LSpeaksForTheChair$Standing;", Cond.fieldLink RX5 39 "SpeaksForTheChair" "past" "LSpeaksForTheChair$Past;", Cond.fieldLink RX5 19 "SpeaksForTheChair" "laid" "LSpeaksForTheChair$House;", Cond.fieldLink RX5 120 "SpeaksForTheChair$House" "prices" "[I", Cond.fieldLink RX5 172 "SpeaksForTheChair$Standing" "coins" "I", Cond.methodLink RX5 109 yX5_isPiece, Cond.instanceMethod yX5_isPiece, Cond.selects RX5 yX5_isPiece yX5_isPiece, Cond.initialized RX5, Cond.code yX5_isPiece cX5_isPiece 2 (some .boolean), Cond.fieldLink RX5 91 "SpeaksForTheChair$House" "pieces" "I", Cond.methodLink RX5 80 yX5_isWithin, Cond.static yX5_isWithin, Cond.code yX5_isWithin cX5_isWithin 3 (some .boolean), Cond.methodLink RX5 166 yX5_canBeBought, Cond.instanceMethod yX5_canBeBought, Cond.selects RX5 yX5_canBeBought yX5_canBeBought, Cond.code yX5_canBeBought cX5_canBeBought 3 (some .boolean), Cond.methodLink RX5 123 yX4_howIs, Cond.instanceMethod yX4_howIs, Cond.selects RX4 yX4_howIs yX4_howIs, Cond.initialized RX4, Cond.code yX4_howIs cX4_howIs 2 (some .int), Cond.fieldLink RX4 18 "SpeaksForTheChair$Standing" "spoken" "I"]
def wsX5_buy_r2 : List Cond := [Cond.fieldLink RX4 15 "SpeaksForTheChair$Standing" "bought" "I", Cond.methodLink RX5 155 yX4_packed, Cond.instanceMethod yX4_packed, Cond.selects RX4 yX4_packed yX4_packed, Cond.code yX4_packed cX4_packed 1 (some .long), Cond.fieldLink RX4 24 "SpeaksForTheChair$Standing" "coins" "I", Cond.fieldLink RX4 21 "SpeaksForTheChair$Standing" "out" "I", Cond.fieldLink RX4 9 "SpeaksForTheChair$Standing" "rooms" "I", Cond.methodLink RX5 159 yX2_push, Cond.instanceMethod yX2_push, Cond.selects RX2 yX2_push yX2_push, Cond.initialized RX2, Cond.code yX2_push cX2_push 3 none, Cond.fieldLink RX2 9 "SpeaksForTheChair$Past" "ring" "[J", Cond.fieldLink RX2 15 "SpeaksForTheChair$Past" "next" "I", Cond.fieldLink RX2 19 "SpeaksForTheChair$Past" "depth" "I", Cond.methodLink RX2 22 Lib.Math.min.name, Cond.static Lib.Math.min.name, Cond.initialized "java/lang/Math", Cond.code Lib.Math.min.name Lib.Math.min.code 2 (some .int), Cond.methodLink RX5 169 yX4_sell, Cond.instanceMethod yX4_sell, Cond.selects RX4 yX4_sell yX4_sell, Cond.code yX4_sell cX4_sell 3 none]
def wsX5_buy : List Cond := .code yX5_buy cX5_buy 2 (some .int) :: ((wsX5_buy_r1 ++ wsX5_buy_r2) ++ wsX50 ++ wsX00 ++ wsX40 ++ wsX20)
def wsX5_carry_r1 : List Cond := [Cond.fieldLink RX5 29 "SpeaksForTheChair" "now" "LSpeaksForTheChair$Standing;", Cond.fieldLink RX5 39 "SpeaksForTheChair" "past" "LSpeaksForTheChair$Past;", Cond.methodLink RX5 109 yX5_isPiece, Cond.instanceMethod yX5_isPiece, Cond.selects RX5 yX5_isPiece yX5_isPiece, Cond.initialized RX5, Cond.code yX5_isPiece cX5_isPiece 2 (some .boolean), Cond.fieldLink RX5 19 "SpeaksForTheChair" "laid" "LSpeaksForTheChair$House;", Cond.fieldLink RX5 91 "SpeaksForTheChair$House" "pieces" "I", Cond.methodLink RX5 80 yX5_isWithin, Cond.static yX5_isWithin, Cond.code yX5_isWithin cX5_isWithin 3 (some .boolean), Cond.methodLink RX5 116 yX4_roomOf, Cond.instanceMethod yX4_roomOf, Cond.selects RX4 yX4_roomOf yX4_roomOf, Cond.initialized RX4, Cond.code yX4_roomOf cX4_roomOf 2 (some .int), Cond.fieldLink RX4 9 "SpeaksForTheChair$Standing" "rooms" "I", Cond.methodLink RX5 123 yX4_howIs, Cond.instanceMethod yX4_howIs, Cond.selects RX4 yX4_howIs yX4_howIs, Cond.code yX4_howIs cX4_howIs 2 (some .int), Cond.fieldLink RX4 18 "SpeaksForTheChair$Standing" "spoken" "I", Cond.fieldLink RX4 15 "SpeaksForTheChair$Standing" "bought" "I"]
def wsX5_carry_r2 : List Cond := [Cond.methodLink RX5 155 yX4_packed, Cond.instanceMethod yX4_packed, Cond.selects RX4 yX4_packed yX4_packed, Cond.code yX4_packed cX4_packed 1 (some .long), Cond.fieldLink RX4 24 "SpeaksForTheChair$Standing" "coins" "I", Cond.fieldLink RX4 21 "SpeaksForTheChair$Standing" "out" "I", Cond.methodLink RX5 159 yX2_push, Cond.instanceMethod yX2_push, Cond.selects RX2 yX2_push yX2_push, Cond.initialized RX2, Cond.code yX2_push cX2_push 3 none, Cond.fieldLink RX2 9 "SpeaksForTheChair$Past" "ring" "[J", Cond.fieldLink RX2 15 "SpeaksForTheChair$Past" "next" "I", Cond.fieldLink RX2 19 "SpeaksForTheChair$Past" "depth" "I", Cond.methodLink RX2 22 Lib.Math.min.name, Cond.static Lib.Math.min.name, Cond.initialized "java/lang/Math", Cond.code Lib.Math.min.name Lib.Math.min.code 2 (some .int), Cond.methodLink RX5 173 yX4_move, Cond.instanceMethod yX4_move, Cond.selects RX4 yX4_move yX4_move, Cond.code yX4_move cX4_move 3 none]
def wsX5_carry : List Cond := .code yX5_carry cX5_carry 4 (some .int) :: ((wsX5_carry_r1 ++ wsX5_carry_r2) ++ wsX50 ++ wsX00 ++ wsX40 ++ wsX20)
def wsX5_undo_r1 : List Cond := [Cond.fieldLink RX5 39 "SpeaksForTheChair" "past" "LSpeaksForTheChair$Past;", Cond.fieldLink RX5 176 "SpeaksForTheChair$Past" "depth" "I", Cond.fieldLink RX5 29 "SpeaksForTheChair" "now" "LSpeaksForTheChair$Standing;", Cond.methodLink RX5 179 yX2_pop, Cond.instanceMethod yX2_pop, Cond.selects RX2 yX2_pop yX2_pop, Cond.initialized RX2, Cond.code yX2_pop cX2_pop 1 (some .long), Cond.fieldLink RX2 15 "SpeaksForTheChair$Past" "next" "I", Cond.fieldLink RX2 19 "SpeaksForTheChair$Past" "depth" "I", Cond.methodLink RX2 28 Lib.Math.max.name, Cond.static Lib.Math.max.name, Cond.initialized "java/lang/Math", Cond.code Lib.Math.max.name Lib.Math.max.code 2 (some .int), Cond.fieldLink RX2 9 "SpeaksForTheChair$Past" "ring" "[J", Cond.methodLink RX5 182 yX4_unpack, Cond.instanceMethod yX4_unpack, Cond.selects RX4 yX4_unpack yX4_unpack, Cond.initialized RX4, Cond.code yX4_unpack cX4_unpack 3 none, Cond.constantLong RX4 27 (65535), Cond.fieldLink RX4 9 "SpeaksForTheChair$Standing" "rooms" "I", Cond.constantLong RX4 29 (255), Cond.fieldLink RX4 15 "SpeaksForTheChair$Standing" "bought" "I"]
def wsX5_undo_r2 : List Cond := [Cond.fieldLink RX4 18 "SpeaksForTheChair$Standing" "spoken" "I", Cond.fieldLink RX4 21 "SpeaksForTheChair$Standing" "out" "I", Cond.fieldLink RX4 24 "SpeaksForTheChair$Standing" "coins" "I"]
def wsX5_undo : List Cond := .code yX5_undo cX5_undo 1 (some .int) :: ((wsX5_undo_r1 ++ wsX5_undo_r2) ++ wsX50 ++ wsX20 ++ wsX40)
def wsX5_silence_r1 : List Cond := [Cond.fieldLink RX5 19 "SpeaksForTheChair" "laid" "LSpeaksForTheChair$House;", Cond.methodLink RX5 152 yX5_looseTellers, Cond.instanceMethod yX5_looseTellers, Cond.selects RX5 yX5_looseTellers yX5_looseTellers, Cond.initialized RX5, Cond.code yX5_looseTellers cX5_looseTellers 4 (some .int), Cond.fieldLink RX5 91 "SpeaksForTheChair$House" "pieces" "I", Cond.fieldLink RX5 29 "SpeaksForTheChair" "now" "LSpeaksForTheChair$Standing;", Cond.methodLink RX5 130 yX5_isLoose, Cond.instanceMethod yX5_isLoose, Cond.selects RX5 yX5_isLoose yX5_isLoose, Cond.code yX5_isLoose cX5_isLoose 3 (some .boolean), Cond.fieldLink RX5 113 "SpeaksForTheChair$House" "kinds" "[I", Cond.methodLink RX5 123 yX4_howIs, Cond.instanceMethod yX4_howIs, Cond.selects RX4 yX4_howIs yX4_howIs, Cond.initialized RX4, Cond.code yX4_howIs cX4_howIs 2 (some .int), Cond.fieldLink RX4 18 "SpeaksForTheChair$Standing" "spoken" "I", Cond.fieldLink RX4 15 "SpeaksForTheChair$Standing" "bought" "I", Cond.methodLink RX5 256 yX0_forbids, Cond.instanceMethod yX0_forbids, Cond.selects RX0 yX0_forbids yX0_forbids, Cond.initialized RX0]
def wsX5_silence_r2 : List Cond := [Cond.code yX0_forbids cX0_forbids 2 (some .boolean), Cond.fieldLink RX0 43 "SpeaksForTheChair$House" "law" "I", Cond.methodLink RX5 116 yX4_roomOf, Cond.instanceMethod yX4_roomOf, Cond.selects RX4 yX4_roomOf yX4_roomOf, Cond.code yX4_roomOf cX4_roomOf 2 (some .int), Cond.fieldLink RX4 9 "SpeaksForTheChair$Standing" "rooms" "I", Cond.methodLink RX5 126 yX0_toldBy, Cond.instanceMethod yX0_toldBy, Cond.selects RX0 yX0_toldBy yX0_toldBy, Cond.code yX0_toldBy cX0_toldBy 5 (some .int), Cond.fieldLink RX0 37 "SpeaksForTheChair$House" "deeds" "I", Cond.fieldLink RX0 21 "SpeaksForTheChair$House" "places" "[I", Cond.fieldLink RX0 9 "SpeaksForTheChair$House" "kinds" "[I", Cond.fieldLink RX0 24 "SpeaksForTheChair$House" "hours" "[I", Cond.fieldLink RX0 27 "SpeaksForTheChair$House" "weights" "[I", Cond.methodLink RX0 92 yX0_wouldTell, Cond.instanceMethod yX0_wouldTell, Cond.selects RX0 yX0_wouldTell yX0_wouldTell, Cond.code yX0_wouldTell cX0_wouldTell 6 (some .boolean), Cond.methodLink RX0 96 yX0_laterOnes, Cond.instanceMethod yX0_laterOnes, Cond.selects RX0 yX0_laterOnes yX0_laterOnes, Cond.code yX0_laterOnes cX0_laterOnes 7 (some .int)]
def wsX5_silence_r3 : List Cond := [Cond.methodLink RX5 209 yX0_priceOf, Cond.instanceMethod yX0_priceOf, Cond.selects RX0 yX0_priceOf yX0_priceOf, Cond.code yX0_priceOf cX0_priceOf 4 (some .int), Cond.fieldLink RX0 33 "SpeaksForTheChair$House" "pieces" "I", Cond.fieldLink RX0 15 "SpeaksForTheChair$House" "prices" "[I"]
def wsX5_silence : List Cond := .code yX5_silence cX5_silence 4 (some .int) :: ((wsX5_silence_r1 ++ (wsX5_silence_r2 ++ wsX5_silence_r3)) ++ wsX50 ++ wsX00 ++ wsX40)
def wsX5_hush_r1 : List Cond := [Cond.methodLink RX5 134 yX5_isDeed, Cond.instanceMethod yX5_isDeed, Cond.selects RX5 yX5_isDeed yX5_isDeed, Cond.initialized RX5, Cond.code yX5_isDeed cX5_isDeed 2 (some .boolean), Cond.fieldLink RX5 19 "SpeaksForTheChair" "laid" "LSpeaksForTheChair$House;", Cond.fieldLink RX5 220 "SpeaksForTheChair$House" "deeds" "I", Cond.methodLink RX5 80 yX5_isWithin, Cond.static yX5_isWithin, Cond.code yX5_isWithin cX5_isWithin 3 (some .boolean), Cond.methodLink RX5 149 yX5_hasComeOut, Cond.instanceMethod yX5_hasComeOut, Cond.selects RX5 yX5_hasComeOut yX5_hasComeOut, Cond.code yX5_hasComeOut cX5_hasComeOut 2 (some .boolean), Cond.fieldLink RX5 29 "SpeaksForTheChair" "now" "LSpeaksForTheChair$Standing;", Cond.fieldLink RX5 191 "SpeaksForTheChair$Standing" "out" "I", Cond.methodLink RX5 185 yX5_silence, Cond.instanceMethod yX5_silence, Cond.selects RX5 yX5_silence yX5_silence, Cond.code yX5_silence cX5_silence 4 (some .int), Cond.methodLink RX5 152 yX5_looseTellers, Cond.instanceMethod yX5_looseTellers, Cond.selects RX5 yX5_looseTellers yX5_looseTellers, Cond.code yX5_looseTellers cX5_looseTellers 4 (some .int)]
def wsX5_hush_r2 : List Cond := [Cond.fieldLink RX5 91 "SpeaksForTheChair$House" "pieces" "I", Cond.methodLink RX5 130 yX5_isLoose, Cond.instanceMethod yX5_isLoose, Cond.selects RX5 yX5_isLoose yX5_isLoose, Cond.code yX5_isLoose cX5_isLoose 3 (some .boolean), Cond.fieldLink RX5 113 "SpeaksForTheChair$House" "kinds" "[I", Cond.methodLink RX5 123 yX4_howIs, Cond.instanceMethod yX4_howIs, Cond.selects RX4 yX4_howIs yX4_howIs, Cond.initialized RX4, Cond.code yX4_howIs cX4_howIs 2 (some .int), Cond.fieldLink RX4 18 "SpeaksForTheChair$Standing" "spoken" "I", Cond.fieldLink RX4 15 "SpeaksForTheChair$Standing" "bought" "I", Cond.methodLink RX5 256 yX0_forbids, Cond.instanceMethod yX0_forbids, Cond.selects RX0 yX0_forbids yX0_forbids, Cond.initialized RX0, Cond.code yX0_forbids cX0_forbids 2 (some .boolean), Cond.fieldLink RX0 43 "SpeaksForTheChair$House" "law" "I", Cond.methodLink RX5 116 yX4_roomOf, Cond.instanceMethod yX4_roomOf, Cond.selects RX4 yX4_roomOf yX4_roomOf, Cond.code yX4_roomOf cX4_roomOf 2 (some .int), Cond.fieldLink RX4 9 "SpeaksForTheChair$Standing" "rooms" "I"]
def wsX5_hush_r3 : List Cond := [Cond.methodLink RX5 126 yX0_toldBy, Cond.instanceMethod yX0_toldBy, Cond.selects RX0 yX0_toldBy yX0_toldBy, Cond.code yX0_toldBy cX0_toldBy 5 (some .int), Cond.fieldLink RX0 37 "SpeaksForTheChair$House" "deeds" "I", Cond.fieldLink RX0 21 "SpeaksForTheChair$House" "places" "[I", Cond.fieldLink RX0 9 "SpeaksForTheChair$House" "kinds" "[I", Cond.fieldLink RX0 24 "SpeaksForTheChair$House" "hours" "[I", Cond.fieldLink RX0 27 "SpeaksForTheChair$House" "weights" "[I", Cond.methodLink RX0 92 yX0_wouldTell, Cond.instanceMethod yX0_wouldTell, Cond.selects RX0 yX0_wouldTell yX0_wouldTell, Cond.code yX0_wouldTell cX0_wouldTell 6 (some .boolean), Cond.methodLink RX0 96 yX0_laterOnes, Cond.instanceMethod yX0_laterOnes, Cond.selects RX0 yX0_laterOnes yX0_laterOnes, Cond.code yX0_laterOnes cX0_laterOnes 7 (some .int), Cond.methodLink RX5 209 yX0_priceOf, Cond.instanceMethod yX0_priceOf, Cond.selects RX0 yX0_priceOf yX0_priceOf, Cond.code yX0_priceOf cX0_priceOf 4 (some .int), Cond.fieldLink RX0 33 "SpeaksForTheChair$House" "pieces" "I", Cond.fieldLink RX0 15 "SpeaksForTheChair$House" "prices" "[I"]
def wsX5_hush : List Cond := .code yX5_hush cX5_hush 3 (some .int) :: ((wsX5_hush_r1 ++ (wsX5_hush_r2 ++ wsX5_hush_r3)) ++ wsX50 ++ wsX00 ++ wsX40)
def wsX5_hushAll_r1 : List Cond := [Cond.fieldLink RX5 19 "SpeaksForTheChair" "laid" "LSpeaksForTheChair$House;", Cond.fieldLink RX5 29 "SpeaksForTheChair" "now" "LSpeaksForTheChair$Standing;", Cond.fieldLink RX5 191 "SpeaksForTheChair$Standing" "out" "I", Cond.methodLink RX5 80 yX5_isWithin, Cond.static yX5_isWithin, Cond.initialized RX5, Cond.code yX5_isWithin cX5_isWithin 3 (some .boolean), Cond.methodLink RX5 188 yX0_deedsAsHeavyAs, Cond.instanceMethod yX0_deedsAsHeavyAs, Cond.selects RX0 yX0_deedsAsHeavyAs yX0_deedsAsHeavyAs, Cond.initialized RX0, Cond.code yX0_deedsAsHeavyAs cX0_deedsAsHeavyAs 4 (some .int), Cond.fieldLink RX0 37 "SpeaksForTheChair$House" "deeds" "I", Cond.fieldLink RX0 27 "SpeaksForTheChair$House" "weights" "[I", Cond.methodLink RX5 185 yX5_silence, Cond.instanceMethod yX5_silence, Cond.selects RX5 yX5_silence yX5_silence, Cond.code yX5_silence cX5_silence 4 (some .int), Cond.methodLink RX5 152 yX5_looseTellers, Cond.instanceMethod yX5_looseTellers, Cond.selects RX5 yX5_looseTellers yX5_looseTellers, Cond.code yX5_looseTellers cX5_looseTellers 4 (some .int), Cond.fieldLink RX5 91 "SpeaksForTheChair$House" "pieces" "I", Cond.methodLink RX5 130 yX5_isLoose]
def wsX5_hushAll_r2 : List Cond := [Cond.instanceMethod yX5_isLoose, Cond.selects RX5 yX5_isLoose yX5_isLoose, Cond.code yX5_isLoose cX5_isLoose 3 (some .boolean), Cond.fieldLink RX5 113 "SpeaksForTheChair$House" "kinds" "[I", Cond.methodLink RX5 123 yX4_howIs, Cond.instanceMethod yX4_howIs, Cond.selects RX4 yX4_howIs yX4_howIs, Cond.initialized RX4, Cond.code yX4_howIs cX4_howIs 2 (some .int), Cond.fieldLink RX4 18 "SpeaksForTheChair$Standing" "spoken" "I", Cond.fieldLink RX4 15 "SpeaksForTheChair$Standing" "bought" "I", Cond.methodLink RX5 256 yX0_forbids, Cond.instanceMethod yX0_forbids, Cond.selects RX0 yX0_forbids yX0_forbids, Cond.code yX0_forbids cX0_forbids 2 (some .boolean), Cond.fieldLink RX0 43 "SpeaksForTheChair$House" "law" "I", Cond.methodLink RX5 116 yX4_roomOf, Cond.instanceMethod yX4_roomOf, Cond.selects RX4 yX4_roomOf yX4_roomOf, Cond.code yX4_roomOf cX4_roomOf 2 (some .int), Cond.fieldLink RX4 9 "SpeaksForTheChair$Standing" "rooms" "I", Cond.methodLink RX5 126 yX0_toldBy, Cond.instanceMethod yX0_toldBy, Cond.selects RX0 yX0_toldBy yX0_toldBy]
def wsX5_hushAll_r3 : List Cond := [Cond.code yX0_toldBy cX0_toldBy 5 (some .int), Cond.fieldLink RX0 21 "SpeaksForTheChair$House" "places" "[I", Cond.fieldLink RX0 9 "SpeaksForTheChair$House" "kinds" "[I", Cond.fieldLink RX0 24 "SpeaksForTheChair$House" "hours" "[I", Cond.methodLink RX0 92 yX0_wouldTell, Cond.instanceMethod yX0_wouldTell, Cond.selects RX0 yX0_wouldTell yX0_wouldTell, Cond.code yX0_wouldTell cX0_wouldTell 6 (some .boolean), Cond.methodLink RX0 96 yX0_laterOnes, Cond.instanceMethod yX0_laterOnes, Cond.selects RX0 yX0_laterOnes yX0_laterOnes, Cond.code yX0_laterOnes cX0_laterOnes 7 (some .int), Cond.methodLink RX5 209 yX0_priceOf, Cond.instanceMethod yX0_priceOf, Cond.selects RX0 yX0_priceOf yX0_priceOf, Cond.code yX0_priceOf cX0_priceOf 4 (some .int), Cond.fieldLink RX0 33 "SpeaksForTheChair$House" "pieces" "I", Cond.fieldLink RX0 15 "SpeaksForTheChair$House" "prices" "[I"]
def wsX5_hushAll : List Cond := .code yX5_hushAll cX5_hushAll 3 (some .int) :: ((wsX5_hushAll_r1 ++ (wsX5_hushAll_r2 ++ wsX5_hushAll_r3)) ++ wsX50 ++ wsX40 ++ wsX00)
def wsX5_isPerson : List Cond := .code yX5_isPerson cX5_isPerson 1 (some .boolean) :: ([.methodLink RX5 80 yX5_isWithin, .static yX5_isWithin, .initialized RX5, .code yX5_isWithin cX5_isWithin 3 (some .boolean)])
def wsX5_hushOne_r1 : List Cond := [Cond.fieldLink RX5 19 "SpeaksForTheChair" "laid" "LSpeaksForTheChair$House;", Cond.fieldLink RX5 29 "SpeaksForTheChair" "now" "LSpeaksForTheChair$Standing;", Cond.fieldLink RX5 191 "SpeaksForTheChair$Standing" "out" "I", Cond.methodLink RX5 194 yX5_isPerson, Cond.static yX5_isPerson, Cond.initialized RX5, Cond.code yX5_isPerson cX5_isPerson 1 (some .boolean), Cond.methodLink RX5 80 yX5_isWithin, Cond.static yX5_isWithin, Cond.code yX5_isWithin cX5_isWithin 3 (some .boolean), Cond.methodLink RX5 197 yX0_deedsOf, Cond.instanceMethod yX0_deedsOf, Cond.selects RX0 yX0_deedsOf yX0_deedsOf, Cond.initialized RX0, Cond.code yX0_deedsOf cX0_deedsOf 4 (some .int), Cond.fieldLink RX0 37 "SpeaksForTheChair$House" "deeds" "I", Cond.fieldLink RX0 18 "SpeaksForTheChair$House" "persons" "[I", Cond.methodLink RX5 185 yX5_silence, Cond.instanceMethod yX5_silence, Cond.selects RX5 yX5_silence yX5_silence, Cond.code yX5_silence cX5_silence 4 (some .int), Cond.methodLink RX5 152 yX5_looseTellers, Cond.instanceMethod yX5_looseTellers, Cond.selects RX5 yX5_looseTellers yX5_looseTellers]
def wsX5_hushOne_r2 : List Cond := [Cond.code yX5_looseTellers cX5_looseTellers 4 (some .int), Cond.fieldLink RX5 91 "SpeaksForTheChair$House" "pieces" "I", Cond.methodLink RX5 130 yX5_isLoose, Cond.instanceMethod yX5_isLoose, Cond.selects RX5 yX5_isLoose yX5_isLoose, Cond.code yX5_isLoose cX5_isLoose 3 (some .boolean), Cond.fieldLink RX5 113 "SpeaksForTheChair$House" "kinds" "[I", Cond.methodLink RX5 123 yX4_howIs, Cond.instanceMethod yX4_howIs, Cond.selects RX4 yX4_howIs yX4_howIs, Cond.initialized RX4, Cond.code yX4_howIs cX4_howIs 2 (some .int), Cond.fieldLink RX4 18 "SpeaksForTheChair$Standing" "spoken" "I", Cond.fieldLink RX4 15 "SpeaksForTheChair$Standing" "bought" "I", Cond.methodLink RX5 256 yX0_forbids, Cond.instanceMethod yX0_forbids, Cond.selects RX0 yX0_forbids yX0_forbids, Cond.code yX0_forbids cX0_forbids 2 (some .boolean), Cond.fieldLink RX0 43 "SpeaksForTheChair$House" "law" "I", Cond.methodLink RX5 116 yX4_roomOf, Cond.instanceMethod yX4_roomOf, Cond.selects RX4 yX4_roomOf yX4_roomOf, Cond.code yX4_roomOf cX4_roomOf 2 (some .int), Cond.fieldLink RX4 9 "SpeaksForTheChair$Standing" "rooms" "I"]
def wsX5_hushOne_r3 : List Cond := [Cond.methodLink RX5 126 yX0_toldBy, Cond.instanceMethod yX0_toldBy, Cond.selects RX0 yX0_toldBy yX0_toldBy, Cond.code yX0_toldBy cX0_toldBy 5 (some .int), Cond.fieldLink RX0 21 "SpeaksForTheChair$House" "places" "[I", Cond.fieldLink RX0 9 "SpeaksForTheChair$House" "kinds" "[I", Cond.fieldLink RX0 24 "SpeaksForTheChair$House" "hours" "[I", Cond.fieldLink RX0 27 "SpeaksForTheChair$House" "weights" "[I", Cond.methodLink RX0 92 yX0_wouldTell, Cond.instanceMethod yX0_wouldTell, Cond.selects RX0 yX0_wouldTell yX0_wouldTell, Cond.code yX0_wouldTell cX0_wouldTell 6 (some .boolean), Cond.methodLink RX0 96 yX0_laterOnes, Cond.instanceMethod yX0_laterOnes, Cond.selects RX0 yX0_laterOnes yX0_laterOnes, Cond.code yX0_laterOnes cX0_laterOnes 7 (some .int), Cond.methodLink RX5 209 yX0_priceOf, Cond.instanceMethod yX0_priceOf, Cond.selects RX0 yX0_priceOf yX0_priceOf, Cond.code yX0_priceOf cX0_priceOf 4 (some .int), Cond.fieldLink RX0 33 "SpeaksForTheChair$House" "pieces" "I", Cond.fieldLink RX0 15 "SpeaksForTheChair$House" "prices" "[I"]
def wsX5_hushOne : List Cond := .code yX5_hushOne cX5_hushOne 3 (some .int) :: ((wsX5_hushOne_r1 ++ (wsX5_hushOne_r2 ++ wsX5_hushOne_r3)) ++ wsX50 ++ wsX40 ++ wsX00)
def wsX5_fillTold_r1 : List Cond := [Cond.fieldLink RX5 19 "SpeaksForTheChair" "laid" "LSpeaksForTheChair$House;", Cond.fieldLink RX5 91 "SpeaksForTheChair$House" "pieces" "I", Cond.fieldLink RX5 54 "SpeaksForTheChair" "told" "[I", Cond.fieldLink RX5 29 "SpeaksForTheChair" "now" "LSpeaksForTheChair$Standing;", Cond.methodLink RX5 116 yX4_roomOf, Cond.instanceMethod yX4_roomOf, Cond.selects RX4 yX4_roomOf yX4_roomOf, Cond.initialized RX4, Cond.code yX4_roomOf cX4_roomOf 2 (some .int), Cond.fieldLink RX4 9 "SpeaksForTheChair$Standing" "rooms" "I", Cond.methodLink RX5 126 yX0_toldBy, Cond.instanceMethod yX0_toldBy, Cond.selects RX0 yX0_toldBy yX0_toldBy, Cond.initialized RX0, Cond.code yX0_toldBy cX0_toldBy 5 (some .int), Cond.fieldLink RX0 37 "SpeaksForTheChair$House" "deeds" "I", Cond.fieldLink RX0 21 "SpeaksForTheChair$House" "places" "[I", Cond.fieldLink RX0 9 "SpeaksForTheChair$House" "kinds" "[I", Cond.fieldLink RX0 24 "SpeaksForTheChair$House" "hours" "[I", Cond.fieldLink RX0 27 "SpeaksForTheChair$House" "weights" "[I", Cond.methodLink RX0 92 yX0_wouldTell, Cond.instanceMethod yX0_wouldTell, Cond.selects RX0 yX0_wouldTell yX0_wouldTell, Cond.code yX0_wouldTell cX0_wouldTell 6 (some .boolean)]
def wsX5_fillTold_r2 : List Cond := [Cond.methodLink RX0 96 yX0_laterOnes, Cond.instanceMethod yX0_laterOnes, Cond.selects RX0 yX0_laterOnes yX0_laterOnes, Cond.code yX0_laterOnes cX0_laterOnes 7 (some .int)]
def wsX5_fillTold : List Cond := .code yX5_fillTold cX5_fillTold 2 none :: ((wsX5_fillTold_r1 ++ wsX5_fillTold_r2) ++ wsX50 ++ wsX00 ++ wsX40)
def wsX5_looseOnes : List Cond := .code yX5_looseOnes cX5_looseOnes 3 (some .int) :: ([.fieldLink RX5 19 "SpeaksForTheChair" "laid" "LSpeaksForTheChair$House;", .fieldLink RX5 91 "SpeaksForTheChair$House" "pieces" "I", .fieldLink RX5 29 "SpeaksForTheChair" "now" "LSpeaksForTheChair$Standing;", .methodLink RX5 130 yX5_isLoose, .instanceMethod yX5_isLoose, .selects RX5 yX5_isLoose yX5_isLoose, .initialized RX5, .code yX5_isLoose cX5_isLoose 3 (some .boolean), .fieldLink RX5 113 "SpeaksForTheChair$House" "kinds" "[I", .methodLink RX5 123 yX4_howIs, .instanceMethod yX4_howIs, .selects RX4 yX4_howIs yX4_howIs, .initialized RX4, .code yX4_howIs cX4_howIs 2 (some .int), .fieldLink RX4 18 "SpeaksForTheChair$Standing" "spoken" "I", .fieldLink RX4 15 "SpeaksForTheChair$Standing" "bought" "I", .methodLink RX5 256 yX0_forbids, .instanceMethod yX0_forbids, .selects RX0 yX0_forbids yX0_forbids, .initialized RX0, .code yX0_forbids cX0_forbids 2 (some .boolean), .fieldLink RX0 43 "SpeaksForTheChair$House" "law" "I"] ++ wsX50 ++ wsX00 ++ wsX40)
def wsX5_toldBySet : List Cond := .code yX5_toldBySet cX5_toldBySet 4 (some .int) :: ([.fieldLink RX5 19 "SpeaksForTheChair" "laid" "LSpeaksForTheChair$House;", .fieldLink RX5 91 "SpeaksForTheChair$House" "pieces" "I", .fieldLink RX5 54 "SpeaksForTheChair" "told" "[I"] ++ wsX50 ++ wsX00)
def wsX5_weightLeft : List Cond := .code yX5_weightLeft cX5_weightLeft 2 (some .int) :: ([.fieldLink RX5 19 "SpeaksForTheChair" "laid" "LSpeaksForTheChair$House;", .fieldLink RX5 29 "SpeaksForTheChair" "now" "LSpeaksForTheChair$Standing;", .fieldLink RX5 191 "SpeaksForTheChair$Standing" "out" "I", .methodLink RX5 212 yX5_toldBySet, .instanceMethod yX5_toldBySet, .selects RX5 yX5_toldBySet yX5_toldBySet, .initialized RX5, .code yX5_toldBySet cX5_toldBySet 4 (some .int), .fieldLink RX5 91 "SpeaksForTheChair$House" "pieces" "I", .fieldLink RX5 54 "SpeaksForTheChair" "told" "[I", .methodLink RX5 230 yX0_weightOf, .instanceMethod yX0_weightOf, .selects RX0 yX0_weightOf yX0_weightOf, .initialized RX0, .code yX0_weightOf cX0_weightOf 4 (some .int), .fieldLink RX0 37 "SpeaksForTheChair$House" "deeds" "I", .fieldLink RX0 27 "SpeaksForTheChair$House" "weights" "[I"] ++ wsX50 ++ wsX40 ++ wsX00)
def wsX5_save_r1 : List Cond := [Cond.fieldLink RX5 19 "SpeaksForTheChair" "laid" "LSpeaksForTheChair$House;", Cond.fieldLink RX5 91 "SpeaksForTheChair$House" "pieces" "I", Cond.fieldLink RX5 29 "SpeaksForTheChair" "now" "LSpeaksForTheChair$Standing;", Cond.fieldLink RX5 172 "SpeaksForTheChair$Standing" "coins" "I", Cond.methodLink RX5 80 yX5_isWithin, Cond.static yX5_isWithin, Cond.initialized RX5, Cond.code yX5_isWithin cX5_isWithin 3 (some .boolean), Cond.methodLink RX5 200 yX5_fillTold, Cond.instanceMethod yX5_fillTold, Cond.selects RX5 yX5_fillTold yX5_fillTold, Cond.code yX5_fillTold cX5_fillTold 2 none, Cond.fieldLink RX5 54 "SpeaksForTheChair" "told" "[I", Cond.methodLink RX5 116 yX4_roomOf, Cond.instanceMethod yX4_roomOf, Cond.selects RX4 yX4_roomOf yX4_roomOf, Cond.initialized RX4, Cond.code yX4_roomOf cX4_roomOf 2 (some .int), Cond.fieldLink RX4 9 "SpeaksForTheChair$Standing" "rooms" "I", Cond.methodLink RX5 126 yX0_toldBy, Cond.instanceMethod yX0_toldBy, Cond.selects RX0 yX0_toldBy yX0_toldBy, Cond.initialized RX0, Cond.code yX0_toldBy cX0_toldBy 5 (some .int)]
def wsX5_save_r2 : List Cond := [Cond.fieldLink RX0 37 "SpeaksForTheChair$House" "deeds" "I", Cond.fieldLink RX0 21 "SpeaksForTheChair$House" "places" "[I", Cond.fieldLink RX0 9 "SpeaksForTheChair$House" "kinds" "[I", Cond.fieldLink RX0 24 "SpeaksForTheChair$House" "hours" "[I", Cond.fieldLink RX0 27 "SpeaksForTheChair$House" "weights" "[I", Cond.methodLink RX0 92 yX0_wouldTell, Cond.instanceMethod yX0_wouldTell, Cond.selects RX0 yX0_wouldTell yX0_wouldTell, Cond.code yX0_wouldTell cX0_wouldTell 6 (some .boolean), Cond.methodLink RX0 96 yX0_laterOnes, Cond.instanceMethod yX0_laterOnes, Cond.selects RX0 yX0_laterOnes yX0_laterOnes, Cond.code yX0_laterOnes cX0_laterOnes 7 (some .int), Cond.methodLink RX5 203 yX5_looseOnes, Cond.instanceMethod yX5_looseOnes, Cond.selects RX5 yX5_looseOnes yX5_looseOnes, Cond.code yX5_looseOnes cX5_looseOnes 3 (some .int), Cond.methodLink RX5 130 yX5_isLoose, Cond.instanceMethod yX5_isLoose, Cond.selects RX5 yX5_isLoose yX5_isLoose, Cond.code yX5_isLoose cX5_isLoose 3 (some .boolean), Cond.fieldLink RX5 113 "SpeaksForTheChair$House" "kinds" "[I", Cond.methodLink RX5 123 yX4_howIs, Cond.instanceMethod yX4_howIs]
def wsX5_save_r3 : List Cond := [Cond.selects RX4 yX4_howIs yX4_howIs, Cond.code yX4_howIs cX4_howIs 2 (some .int), Cond.fieldLink RX4 18 "SpeaksForTheChair$Standing" "spoken" "I", Cond.fieldLink RX4 15 "SpeaksForTheChair$Standing" "bought" "I", Cond.methodLink RX5 256 yX0_forbids, Cond.instanceMethod yX0_forbids, Cond.selects RX0 yX0_forbids yX0_forbids, Cond.code yX0_forbids cX0_forbids 2 (some .boolean), Cond.fieldLink RX0 43 "SpeaksForTheChair$House" "law" "I", Cond.methodLink RX5 206 yX5_weightLeft, Cond.instanceMethod yX5_weightLeft, Cond.selects RX5 yX5_weightLeft yX5_weightLeft, Cond.code yX5_weightLeft cX5_weightLeft 2 (some .int), Cond.fieldLink RX5 191 "SpeaksForTheChair$Standing" "out" "I", Cond.methodLink RX5 212 yX5_toldBySet, Cond.instanceMethod yX5_toldBySet, Cond.selects RX5 yX5_toldBySet yX5_toldBySet, Cond.code yX5_toldBySet cX5_toldBySet 4 (some .int), Cond.methodLink RX5 230 yX0_weightOf, Cond.instanceMethod yX0_weightOf, Cond.selects RX0 yX0_weightOf yX0_weightOf, Cond.code yX0_weightOf cX0_weightOf 4 (some .int), Cond.methodLink RX5 209 yX0_priceOf, Cond.instanceMethod yX0_priceOf]
def wsX5_save_r4 : List Cond := [Cond.selects RX0 yX0_priceOf yX0_priceOf, Cond.code yX0_priceOf cX0_priceOf 4 (some .int), Cond.fieldLink RX0 33 "SpeaksForTheChair$House" "pieces" "I", Cond.fieldLink RX0 15 "SpeaksForTheChair$House" "prices" "[I"]
def wsX5_save : List Cond := .code yX5_save cX5_save 7 (some .int) :: ((wsX5_save_r1 ++ (wsX5_save_r2 ++ (wsX5_save_r3 ++ wsX5_save_r4))) ++ wsX50 ++ wsX00 ++ wsX40)
def wsX5_together_r1 : List Cond := [Cond.fieldLink RX5 19 "SpeaksForTheChair" "laid" "LSpeaksForTheChair$House;", Cond.fieldLink RX5 29 "SpeaksForTheChair" "now" "LSpeaksForTheChair$Standing;", Cond.methodLink RX5 109 yX5_isPiece, Cond.instanceMethod yX5_isPiece, Cond.selects RX5 yX5_isPiece yX5_isPiece, Cond.initialized RX5, Cond.code yX5_isPiece cX5_isPiece 2 (some .boolean), Cond.fieldLink RX5 91 "SpeaksForTheChair$House" "pieces" "I", Cond.methodLink RX5 80 yX5_isWithin, Cond.static yX5_isWithin, Cond.code yX5_isWithin cX5_isWithin 3 (some .boolean), Cond.methodLink RX5 116 yX4_roomOf, Cond.instanceMethod yX4_roomOf, Cond.selects RX4 yX4_roomOf yX4_roomOf, Cond.initialized RX4, Cond.code yX4_roomOf cX4_roomOf 2 (some .int), Cond.fieldLink RX4 9 "SpeaksForTheChair$Standing" "rooms" "I", Cond.methodLink RX5 126 yX0_toldBy, Cond.instanceMethod yX0_toldBy, Cond.selects RX0 yX0_toldBy yX0_toldBy, Cond.initialized RX0, Cond.code yX0_toldBy cX0_toldBy 5 (some .int), Cond.fieldLink RX0 37 "SpeaksForTheChair$House" "deeds" "I", Cond.fieldLink RX0 21 "SpeaksForTheChair$House" "places" "[I"]
def wsX5_together_r2 : List Cond := [Cond.fieldLink RX0 9 "SpeaksForTheChair$House" "kinds" "[I", Cond.fieldLink RX0 24 "SpeaksForTheChair$House" "hours" "[I", Cond.fieldLink RX0 27 "SpeaksForTheChair$House" "weights" "[I", Cond.methodLink RX0 92 yX0_wouldTell, Cond.instanceMethod yX0_wouldTell, Cond.selects RX0 yX0_wouldTell yX0_wouldTell, Cond.code yX0_wouldTell cX0_wouldTell 6 (some .boolean), Cond.methodLink RX0 96 yX0_laterOnes, Cond.instanceMethod yX0_laterOnes, Cond.selects RX0 yX0_laterOnes yX0_laterOnes, Cond.code yX0_laterOnes cX0_laterOnes 7 (some .int)]
def wsX5_together : List Cond := .code yX5_together cX5_together 3 (some .int) :: ((wsX5_together_r1 ++ wsX5_together_r2) ++ wsX50 ++ wsX00 ++ wsX40)
def wsX5_cover_r1 : List Cond := [Cond.fieldLink RX5 19 "SpeaksForTheChair" "laid" "LSpeaksForTheChair$House;", Cond.fieldLink RX5 91 "SpeaksForTheChair$House" "pieces" "I", Cond.methodLink RX5 80 yX5_isWithin, Cond.static yX5_isWithin, Cond.initialized RX5, Cond.code yX5_isWithin cX5_isWithin 3 (some .boolean), Cond.methodLink RX5 200 yX5_fillTold, Cond.instanceMethod yX5_fillTold, Cond.selects RX5 yX5_fillTold yX5_fillTold, Cond.code yX5_fillTold cX5_fillTold 2 none, Cond.fieldLink RX5 54 "SpeaksForTheChair" "told" "[I", Cond.fieldLink RX5 29 "SpeaksForTheChair" "now" "LSpeaksForTheChair$Standing;", Cond.methodLink RX5 116 yX4_roomOf, Cond.instanceMethod yX4_roomOf, Cond.selects RX4 yX4_roomOf yX4_roomOf, Cond.initialized RX4, Cond.code yX4_roomOf cX4_roomOf 2 (some .int), Cond.fieldLink RX4 9 "SpeaksForTheChair$Standing" "rooms" "I", Cond.methodLink RX5 126 yX0_toldBy, Cond.instanceMethod yX0_toldBy, Cond.selects RX0 yX0_toldBy yX0_toldBy, Cond.initialized RX0, Cond.code yX0_toldBy cX0_toldBy 5 (some .int), Cond.fieldLink RX0 37 "SpeaksForTheChair$House" "deeds" "I"]
def wsX5_cover_r2 : List Cond := [Cond.fieldLink RX0 21 "SpeaksForTheChair$House" "places" "[I", Cond.fieldLink RX0 9 "SpeaksForTheChair$House" "kinds" "[I", Cond.fieldLink RX0 24 "SpeaksForTheChair$House" "hours" "[I", Cond.fieldLink RX0 27 "SpeaksForTheChair$House" "weights" "[I", Cond.methodLink RX0 92 yX0_wouldTell, Cond.instanceMethod yX0_wouldTell, Cond.selects RX0 yX0_wouldTell yX0_wouldTell, Cond.code yX0_wouldTell cX0_wouldTell 6 (some .boolean), Cond.methodLink RX0 96 yX0_laterOnes, Cond.instanceMethod yX0_laterOnes, Cond.selects RX0 yX0_laterOnes yX0_laterOnes, Cond.code yX0_laterOnes cX0_laterOnes 7 (some .int), Cond.methodLink RX5 203 yX5_looseOnes, Cond.instanceMethod yX5_looseOnes, Cond.selects RX5 yX5_looseOnes yX5_looseOnes, Cond.code yX5_looseOnes cX5_looseOnes 3 (some .int), Cond.methodLink RX5 130 yX5_isLoose, Cond.instanceMethod yX5_isLoose, Cond.selects RX5 yX5_isLoose yX5_isLoose, Cond.code yX5_isLoose cX5_isLoose 3 (some .boolean), Cond.fieldLink RX5 113 "SpeaksForTheChair$House" "kinds" "[I", Cond.methodLink RX5 123 yX4_howIs, Cond.instanceMethod yX4_howIs, Cond.selects RX4 yX4_howIs yX4_howIs]
def wsX5_cover_r3 : List Cond := [Cond.code yX4_howIs cX4_howIs 2 (some .int), Cond.fieldLink RX4 18 "SpeaksForTheChair$Standing" "spoken" "I", Cond.fieldLink RX4 15 "SpeaksForTheChair$Standing" "bought" "I", Cond.methodLink RX5 256 yX0_forbids, Cond.instanceMethod yX0_forbids, Cond.selects RX0 yX0_forbids yX0_forbids, Cond.code yX0_forbids cX0_forbids 2 (some .boolean), Cond.fieldLink RX0 43 "SpeaksForTheChair$House" "law" "I", Cond.methodLink RX5 212 yX5_toldBySet, Cond.instanceMethod yX5_toldBySet, Cond.selects RX5 yX5_toldBySet yX5_toldBySet, Cond.code yX5_toldBySet cX5_toldBySet 4 (some .int), Cond.methodLink RX5 215 yJ6_bitCount_0f7a4, Cond.static yJ6_bitCount_0f7a4, Cond.initialized RJ6, Cond.code yJ6_bitCount_0f7a4 cJ6_bitCount_0f7a4 1 (some .int), Cond.constant RJ6 265 (1431655765), Cond.constant RJ6 266 (858993459), Cond.constant RJ6 267 (252645135)]
def wsX5_cover : List Cond := .code yX5_cover cX5_cover 8 (some .int) :: ((wsX5_cover_r1 ++ (wsX5_cover_r2 ++ wsX5_cover_r3)) ++ wsX50 ++ wsX00 ++ wsX40)
def wsX5_safe_r1 : List Cond := [Cond.fieldLink RX5 19 "SpeaksForTheChair" "laid" "LSpeaksForTheChair$House;", Cond.fieldLink RX5 91 "SpeaksForTheChair$House" "pieces" "I", Cond.fieldLink RX5 29 "SpeaksForTheChair" "now" "LSpeaksForTheChair$Standing;", Cond.fieldLink RX5 113 "SpeaksForTheChair$House" "kinds" "[I", Cond.fieldLink RX5 220 "SpeaksForTheChair$House" "deeds" "I", Cond.methodLink RX5 80 yX5_isWithin, Cond.static yX5_isWithin, Cond.initialized RX5, Cond.code yX5_isWithin cX5_isWithin 3 (some .boolean), Cond.methodLink RX5 116 yX4_roomOf, Cond.instanceMethod yX4_roomOf, Cond.selects RX4 yX4_roomOf yX4_roomOf, Cond.initialized RX4, Cond.code yX4_roomOf cX4_roomOf 2 (some .int), Cond.fieldLink RX4 9 "SpeaksForTheChair$Standing" "rooms" "I", Cond.methodLink RX5 130 yX5_isLoose, Cond.instanceMethod yX5_isLoose, Cond.selects RX5 yX5_isLoose yX5_isLoose, Cond.code yX5_isLoose cX5_isLoose 3 (some .boolean), Cond.methodLink RX5 123 yX4_howIs, Cond.instanceMethod yX4_howIs, Cond.selects RX4 yX4_howIs yX4_howIs, Cond.code yX4_howIs cX4_howIs 2 (some .int), Cond.fieldLink RX4 18 "SpeaksForTheChair$Standing" "spoken" "I"]
def wsX5_safe_r2 : List Cond := [Cond.fieldLink RX4 15 "SpeaksForTheChair$Standing" "bought" "I", Cond.methodLink RX5 256 yX0_forbids, Cond.instanceMethod yX0_forbids, Cond.selects RX0 yX0_forbids yX0_forbids, Cond.initialized RX0, Cond.code yX0_forbids cX0_forbids 2 (some .boolean), Cond.fieldLink RX0 43 "SpeaksForTheChair$House" "law" "I", Cond.methodLink RX5 223 yX0_wouldTell, Cond.instanceMethod yX0_wouldTell, Cond.selects RX0 yX0_wouldTell yX0_wouldTell, Cond.code yX0_wouldTell cX0_wouldTell 6 (some .boolean), Cond.methodLink RX0 96 yX0_laterOnes, Cond.instanceMethod yX0_laterOnes, Cond.selects RX0 yX0_laterOnes yX0_laterOnes, Cond.code yX0_laterOnes cX0_laterOnes 7 (some .int), Cond.fieldLink RX0 37 "SpeaksForTheChair$House" "deeds" "I", Cond.fieldLink RX0 24 "SpeaksForTheChair$House" "hours" "[I", Cond.fieldLink RX0 21 "SpeaksForTheChair$House" "places" "[I"]
def wsX5_safe : List Cond := .code yX5_safe cX5_safe 6 (some .int) :: ((wsX5_safe_r1 ++ wsX5_safe_r2) ++ wsX50 ++ wsX00 ++ wsX40)
def wsX5_loudest : List Cond := .code yX5_loudest cX5_loudest 7 (some .int) :: ([.fieldLink RX5 19 "SpeaksForTheChair" "laid" "LSpeaksForTheChair$House;", .fieldLink RX5 91 "SpeaksForTheChair$House" "pieces" "I", .fieldLink RX5 54 "SpeaksForTheChair" "told" "[I", .methodLink RX5 230 yX0_weightOf, .instanceMethod yX0_weightOf, .selects RX0 yX0_weightOf yX0_weightOf, .initialized RX0, .code yX0_weightOf cX0_weightOf 4 (some .int), .fieldLink RX0 37 "SpeaksForTheChair$House" "deeds" "I", .fieldLink RX0 27 "SpeaksForTheChair$House" "weights" "[I"] ++ wsX50 ++ wsX00)
def wsX5_dealer_r1 : List Cond := [Cond.fieldLink RX5 29 "SpeaksForTheChair" "now" "LSpeaksForTheChair$Standing;", Cond.fieldLink RX5 191 "SpeaksForTheChair$Standing" "out" "I", Cond.fieldLink RX5 19 "SpeaksForTheChair" "laid" "LSpeaksForTheChair$House;", Cond.fieldLink RX5 91 "SpeaksForTheChair$House" "pieces" "I", Cond.fieldLink RX5 54 "SpeaksForTheChair" "told" "[I", Cond.methodLink RX5 200 yX5_fillTold, Cond.instanceMethod yX5_fillTold, Cond.selects RX5 yX5_fillTold yX5_fillTold, Cond.initialized RX5, Cond.code yX5_fillTold cX5_fillTold 2 none, Cond.methodLink RX5 116 yX4_roomOf, Cond.instanceMethod yX4_roomOf, Cond.selects RX4 yX4_roomOf yX4_roomOf, Cond.initialized RX4, Cond.code yX4_roomOf cX4_roomOf 2 (some .int), Cond.fieldLink RX4 9 "SpeaksForTheChair$Standing" "rooms" "I", Cond.methodLink RX5 126 yX0_toldBy, Cond.instanceMethod yX0_toldBy, Cond.selects RX0 yX0_toldBy yX0_toldBy, Cond.initialized RX0, Cond.code yX0_toldBy cX0_toldBy 5 (some .int), Cond.fieldLink RX0 37 "SpeaksForTheChair$House" "deeds" "I", Cond.fieldLink RX0 21 "SpeaksForTheChair$House" "places" "[I", Cond.fieldLink RX0 9 "SpeaksForTheChair$House" "kinds" "[I"]
def wsX5_dealer_r2 : List Cond := [Cond.fieldLink RX0 24 "SpeaksForTheChair$House" "hours" "[I", Cond.fieldLink RX0 27 "SpeaksForTheChair$House" "weights" "[I", Cond.methodLink RX0 92 yX0_wouldTell, Cond.instanceMethod yX0_wouldTell, Cond.selects RX0 yX0_wouldTell yX0_wouldTell, Cond.code yX0_wouldTell cX0_wouldTell 6 (some .boolean), Cond.methodLink RX0 96 yX0_laterOnes, Cond.instanceMethod yX0_laterOnes, Cond.selects RX0 yX0_laterOnes yX0_laterOnes, Cond.code yX0_laterOnes cX0_laterOnes 7 (some .int), Cond.methodLink RX5 203 yX5_looseOnes, Cond.instanceMethod yX5_looseOnes, Cond.selects RX5 yX5_looseOnes yX5_looseOnes, Cond.code yX5_looseOnes cX5_looseOnes 3 (some .int), Cond.methodLink RX5 130 yX5_isLoose, Cond.instanceMethod yX5_isLoose, Cond.selects RX5 yX5_isLoose yX5_isLoose, Cond.code yX5_isLoose cX5_isLoose 3 (some .boolean), Cond.fieldLink RX5 113 "SpeaksForTheChair$House" "kinds" "[I", Cond.methodLink RX5 123 yX4_howIs, Cond.instanceMethod yX4_howIs, Cond.selects RX4 yX4_howIs yX4_howIs, Cond.code yX4_howIs cX4_howIs 2 (some .int), Cond.fieldLink RX4 18 "SpeaksForTheChair$Standing" "spoken" "I"]
def wsX5_dealer_r3 : List Cond := [Cond.fieldLink RX4 15 "SpeaksForTheChair$Standing" "bought" "I", Cond.methodLink RX5 256 yX0_forbids, Cond.instanceMethod yX0_forbids, Cond.selects RX0 yX0_forbids yX0_forbids, Cond.code yX0_forbids cX0_forbids 2 (some .boolean), Cond.fieldLink RX0 43 "SpeaksForTheChair$House" "law" "I", Cond.methodLink RX5 227 yX5_loudest, Cond.instanceMethod yX5_loudest, Cond.selects RX5 yX5_loudest yX5_loudest, Cond.code yX5_loudest cX5_loudest 7 (some .int), Cond.methodLink RX5 230 yX0_weightOf, Cond.instanceMethod yX0_weightOf, Cond.selects RX0 yX0_weightOf yX0_weightOf, Cond.code yX0_weightOf cX0_weightOf 4 (some .int)]
def wsX5_dealer : List Cond := .code yX5_dealer cX5_dealer 7 (some .int) :: ((wsX5_dealer_r1 ++ (wsX5_dealer_r2 ++ wsX5_dealer_r3)) ++ wsX50 ++ wsX40 ++ wsX00)
def wsX5_ruin : List Cond := .code yX5_ruin cX5_ruin 2 (some .int) :: ([.fieldLink RX5 19 "SpeaksForTheChair" "laid" "LSpeaksForTheChair$House;", .fieldLink RX5 29 "SpeaksForTheChair" "now" "LSpeaksForTheChair$Standing;", .fieldLink RX5 191 "SpeaksForTheChair$Standing" "out" "I", .methodLink RX5 194 yX5_isPerson, .static yX5_isPerson, .initialized RX5, .code yX5_isPerson cX5_isPerson 1 (some .boolean), .methodLink RX5 80 yX5_isWithin, .static yX5_isWithin, .code yX5_isWithin cX5_isWithin 3 (some .boolean), .methodLink RX5 197 yX0_deedsOf, .instanceMethod yX0_deedsOf, .selects RX0 yX0_deedsOf yX0_deedsOf, .initialized RX0, .code yX0_deedsOf cX0_deedsOf 4 (some .int), .fieldLink RX0 37 "SpeaksForTheChair$House" "deeds" "I", .fieldLink RX0 18 "SpeaksForTheChair$House" "persons" "[I", .methodLink RX5 230 yX0_weightOf, .instanceMethod yX0_weightOf, .selects RX0 yX0_weightOf yX0_weightOf, .code yX0_weightOf cX0_weightOf 4 (some .int), .fieldLink RX0 27 "SpeaksForTheChair$House" "weights" "[I"] ++ wsX50 ++ wsX40 ++ wsX00)
def wsX5_seen_r1 : List Cond := [Cond.fieldLink RX5 46 "SpeaksForTheChair" "sightings" "LSpeaksForTheChair$Sightings;", Cond.fieldLink RX5 236 "SpeaksForTheChair$Sightings" "length" "I", Cond.methodLink RX5 109 yX5_isPiece, Cond.instanceMethod yX5_isPiece, Cond.selects RX5 yX5_isPiece yX5_isPiece, Cond.initialized RX5, Cond.code yX5_isPiece cX5_isPiece 2 (some .boolean), Cond.fieldLink RX5 19 "SpeaksForTheChair" "laid" "LSpeaksForTheChair$House;", Cond.fieldLink RX5 91 "SpeaksForTheChair$House" "pieces" "I", Cond.methodLink RX5 80 yX5_isWithin, Cond.static yX5_isWithin, Cond.code yX5_isWithin cX5_isWithin 3 (some .boolean), Cond.methodLink RX5 134 yX5_isDeed, Cond.instanceMethod yX5_isDeed, Cond.selects RX5 yX5_isDeed yX5_isDeed, Cond.code yX5_isDeed cX5_isDeed 2 (some .boolean), Cond.fieldLink RX5 220 "SpeaksForTheChair$House" "deeds" "I", Cond.methodLink RX5 233 yX3_add, Cond.instanceMethod yX3_add, Cond.selects RX3 yX3_add yX3_add, Cond.initialized RX3, Cond.code yX3_add cX3_add 4 (some .boolean), Cond.fieldLink RX3 22 "SpeaksForTheChair$Sightings" "length" "I", Cond.fieldLink RX3 9 "SpeaksForTheChair$Sightings" "pieces" "[I"]
def wsX5_seen_r2 : List Cond := [Cond.fieldLink RX3 15 "SpeaksForTheChair$Sightings" "deeds" "[I", Cond.fieldLink RX3 18 "SpeaksForTheChair$Sightings" "tells" "[Z"]
def wsX5_seen : List Cond := .code yX5_seen cX5_seen 4 (some .int) :: ((wsX5_seen_r1 ++ wsX5_seen_r2) ++ wsX50 ++ wsX30 ++ wsX00)
def wsX5_forget : List Cond := .code yX5_forget cX5_forget 2 (some .int) :: ([.fieldLink RX5 46 "SpeaksForTheChair" "sightings" "LSpeaksForTheChair$Sightings;", .fieldLink RX5 236 "SpeaksForTheChair$Sightings" "length" "I", .methodLink RX5 105 yX3_clear, .instanceMethod yX3_clear, .selects RX3 yX3_clear yX3_clear, .initialized RX3, .code yX3_clear cX3_clear 1 none, .fieldLink RX3 22 "SpeaksForTheChair$Sightings" "length" "I"] ++ wsX50 ++ wsX30)
def wsX5_agreesWithSeen_r1 : List Cond := [Cond.fieldLink RX5 46 "SpeaksForTheChair" "sightings" "LSpeaksForTheChair$Sightings;", Cond.fieldLink RX5 236 "SpeaksForTheChair$Sightings" "length" "I", Cond.fieldLink RX5 262 "SpeaksForTheChair$Sightings" "pieces" "[I", Cond.fieldLink RX5 264 "SpeaksForTheChair$Sightings" "deeds" "[I", Cond.fieldLink RX5 29 "SpeaksForTheChair" "now" "LSpeaksForTheChair$Standing;", Cond.fieldLink RX5 19 "SpeaksForTheChair" "laid" "LSpeaksForTheChair$House;", Cond.fieldLink RX5 113 "SpeaksForTheChair$House" "kinds" "[I", Cond.fieldLink RX5 146 "SpeaksForTheChair$House" "weights" "[I", Cond.fieldLink RX5 266 "SpeaksForTheChair$Sightings" "tells" "[Z", Cond.methodLink RX5 109 yX5_isPiece, Cond.instanceMethod yX5_isPiece, Cond.selects RX5 yX5_isPiece yX5_isPiece, Cond.initialized RX5, Cond.code yX5_isPiece cX5_isPiece 2 (some .boolean), Cond.fieldLink RX5 91 "SpeaksForTheChair$House" "pieces" "I", Cond.methodLink RX5 80 yX5_isWithin, Cond.static yX5_isWithin, Cond.code yX5_isWithin cX5_isWithin 3 (some .boolean), Cond.methodLink RX5 116 yX4_roomOf, Cond.instanceMethod yX4_roomOf, Cond.selects RX4 yX4_roomOf yX4_roomOf, Cond.initialized RX4, Cond.code yX4_roomOf cX4_roomOf 2 (some .int), Cond.fieldLink RX4 9 "SpeaksForTheChair$Standing" "rooms" "I"]
def wsX5_agreesWithSeen_r2 : List Cond := [Cond.methodLink RX5 223 yX0_wouldTell, Cond.instanceMethod yX0_wouldTell, Cond.selects RX0 yX0_wouldTell yX0_wouldTell, Cond.initialized RX0, Cond.code yX0_wouldTell cX0_wouldTell 6 (some .boolean), Cond.methodLink RX0 96 yX0_laterOnes, Cond.instanceMethod yX0_laterOnes, Cond.selects RX0 yX0_laterOnes yX0_laterOnes, Cond.code yX0_laterOnes cX0_laterOnes 7 (some .int), Cond.fieldLink RX0 37 "SpeaksForTheChair$House" "deeds" "I", Cond.fieldLink RX0 24 "SpeaksForTheChair$House" "hours" "[I", Cond.fieldLink RX0 21 "SpeaksForTheChair$House" "places" "[I"]
def wsX5_agreesWithSeen : List Cond := .code yX5_agreesWithSeen cX5_agreesWithSeen 7 (some .boolean) :: ((wsX5_agreesWithSeen_r1 ++ wsX5_agreesWithSeen_r2) ++ wsX50 ++ wsX30 ++ wsX00 ++ wsX40)
def wsX5_roomsThatMay_r1 : List Cond := [Cond.fieldLink RX5 19 "SpeaksForTheChair" "laid" "LSpeaksForTheChair$House;", Cond.fieldLink RX5 143 "SpeaksForTheChair$House" "hours" "[I", Cond.methodLink RX5 259 yX5_agreesWithSeen, Cond.instanceMethod yX5_agreesWithSeen, Cond.selects RX5 yX5_agreesWithSeen yX5_agreesWithSeen, Cond.initialized RX5, Cond.code yX5_agreesWithSeen cX5_agreesWithSeen 7 (some .boolean), Cond.fieldLink RX5 46 "SpeaksForTheChair" "sightings" "LSpeaksForTheChair$Sightings;", Cond.fieldLink RX5 236 "SpeaksForTheChair$Sightings" "length" "I", Cond.fieldLink RX5 262 "SpeaksForTheChair$Sightings" "pieces" "[I", Cond.fieldLink RX5 264 "SpeaksForTheChair$Sightings" "deeds" "[I", Cond.fieldLink RX5 29 "SpeaksForTheChair" "now" "LSpeaksForTheChair$Standing;", Cond.fieldLink RX5 113 "SpeaksForTheChair$House" "kinds" "[I", Cond.fieldLink RX5 146 "SpeaksForTheChair$House" "weights" "[I", Cond.fieldLink RX5 266 "SpeaksForTheChair$Sightings" "tells" "[Z", Cond.methodLink RX5 109 yX5_isPiece, Cond.instanceMethod yX5_isPiece, Cond.selects RX5 yX5_isPiece yX5_isPiece, Cond.code yX5_isPiece cX5_isPiece 2 (some .boolean), Cond.fieldLink RX5 91 "SpeaksForTheChair$House" "pieces" "I", Cond.methodLink RX5 80 yX5_isWithin, Cond.static yX5_isWithin, Cond.code yX5_isWithin cX5_isWithin 3 (some .boolean), Cond.methodLink RX5 116 yX4_roomOf]
def wsX5_roomsThatMay_r2 : List Cond := [Cond.instanceMethod yX4_roomOf, Cond.selects RX4 yX4_roomOf yX4_roomOf, Cond.initialized RX4, Cond.code yX4_roomOf cX4_roomOf 2 (some .int), Cond.fieldLink RX4 9 "SpeaksForTheChair$Standing" "rooms" "I", Cond.methodLink RX5 223 yX0_wouldTell, Cond.instanceMethod yX0_wouldTell, Cond.selects RX0 yX0_wouldTell yX0_wouldTell, Cond.initialized RX0, Cond.code yX0_wouldTell cX0_wouldTell 6 (some .boolean), Cond.methodLink RX0 96 yX0_laterOnes, Cond.instanceMethod yX0_laterOnes, Cond.selects RX0 yX0_laterOnes yX0_laterOnes, Cond.code yX0_laterOnes cX0_laterOnes 7 (some .int), Cond.fieldLink RX0 37 "SpeaksForTheChair$House" "deeds" "I", Cond.fieldLink RX0 24 "SpeaksForTheChair$House" "hours" "[I", Cond.fieldLink RX0 21 "SpeaksForTheChair$House" "places" "[I"]
def wsX5_roomsThatMay : List Cond := .code yX5_roomsThatMay cX5_roomsThatMay 4 (some .int) :: ((wsX5_roomsThatMay_r1 ++ wsX5_roomsThatMay_r2) ++ wsX50 ++ wsX00 ++ wsX30 ++ wsX40)
def wsX5_hoursThatMay_r1 : List Cond := [Cond.fieldLink RX5 19 "SpeaksForTheChair" "laid" "LSpeaksForTheChair$House;", Cond.fieldLink RX5 140 "SpeaksForTheChair$House" "places" "[I", Cond.methodLink RX5 259 yX5_agreesWithSeen, Cond.instanceMethod yX5_agreesWithSeen, Cond.selects RX5 yX5_agreesWithSeen yX5_agreesWithSeen, Cond.initialized RX5, Cond.code yX5_agreesWithSeen cX5_agreesWithSeen 7 (some .boolean), Cond.fieldLink RX5 46 "SpeaksForTheChair" "sightings" "LSpeaksForTheChair$Sightings;", Cond.fieldLink RX5 236 "SpeaksForTheChair$Sightings" "length" "I", Cond.fieldLink RX5 262 "SpeaksForTheChair$Sightings" "pieces" "[I", Cond.fieldLink RX5 264 "SpeaksForTheChair$Sightings" "deeds" "[I", Cond.fieldLink RX5 29 "SpeaksForTheChair" "now" "LSpeaksForTheChair$Standing;", Cond.fieldLink RX5 113 "SpeaksForTheChair$House" "kinds" "[I", Cond.fieldLink RX5 146 "SpeaksForTheChair$House" "weights" "[I", Cond.fieldLink RX5 266 "SpeaksForTheChair$Sightings" "tells" "[Z", Cond.methodLink RX5 109 yX5_isPiece, Cond.instanceMethod yX5_isPiece, Cond.selects RX5 yX5_isPiece yX5_isPiece, Cond.code yX5_isPiece cX5_isPiece 2 (some .boolean), Cond.fieldLink RX5 91 "SpeaksForTheChair$House" "pieces" "I", Cond.methodLink RX5 80 yX5_isWithin, Cond.static yX5_isWithin, Cond.code yX5_isWithin cX5_isWithin 3 (some .boolean), Cond.methodLink RX5 116 yX4_roomOf]
def wsX5_hoursThatMay_r2 : List Cond := [Cond.instanceMethod yX4_roomOf, Cond.selects RX4 yX4_roomOf yX4_roomOf, Cond.initialized RX4, Cond.code yX4_roomOf cX4_roomOf 2 (some .int), Cond.fieldLink RX4 9 "SpeaksForTheChair$Standing" "rooms" "I", Cond.methodLink RX5 223 yX0_wouldTell, Cond.instanceMethod yX0_wouldTell, Cond.selects RX0 yX0_wouldTell yX0_wouldTell, Cond.initialized RX0, Cond.code yX0_wouldTell cX0_wouldTell 6 (some .boolean), Cond.methodLink RX0 96 yX0_laterOnes, Cond.instanceMethod yX0_laterOnes, Cond.selects RX0 yX0_laterOnes yX0_laterOnes, Cond.code yX0_laterOnes cX0_laterOnes 7 (some .int), Cond.fieldLink RX0 37 "SpeaksForTheChair$House" "deeds" "I", Cond.fieldLink RX0 24 "SpeaksForTheChair$House" "hours" "[I", Cond.fieldLink RX0 21 "SpeaksForTheChair$House" "places" "[I"]
def wsX5_hoursThatMay : List Cond := .code yX5_hoursThatMay cX5_hoursThatMay 4 (some .int) :: ((wsX5_hoursThatMay_r1 ++ wsX5_hoursThatMay_r2) ++ wsX50 ++ wsX00 ++ wsX30 ++ wsX40)
def wsX5_may_r1 : List Cond := [Cond.methodLink RX5 134 yX5_isDeed, Cond.instanceMethod yX5_isDeed, Cond.selects RX5 yX5_isDeed yX5_isDeed, Cond.initialized RX5, Cond.code yX5_isDeed cX5_isDeed 2 (some .boolean), Cond.fieldLink RX5 19 "SpeaksForTheChair" "laid" "LSpeaksForTheChair$House;", Cond.fieldLink RX5 220 "SpeaksForTheChair$House" "deeds" "I", Cond.methodLink RX5 80 yX5_isWithin, Cond.static yX5_isWithin, Cond.code yX5_isWithin cX5_isWithin 3 (some .boolean), Cond.methodLink RX5 237 yX5_roomsThatMay, Cond.instanceMethod yX5_roomsThatMay, Cond.selects RX5 yX5_roomsThatMay yX5_roomsThatMay, Cond.code yX5_roomsThatMay cX5_roomsThatMay 4 (some .int), Cond.fieldLink RX5 143 "SpeaksForTheChair$House" "hours" "[I", Cond.methodLink RX5 259 yX5_agreesWithSeen, Cond.instanceMethod yX5_agreesWithSeen, Cond.selects RX5 yX5_agreesWithSeen yX5_agreesWithSeen, Cond.code yX5_agreesWithSeen cX5_agreesWithSeen 7 (some .boolean), Cond.fieldLink RX5 46 "SpeaksForTheChair" "sightings" "LSpeaksForTheChair$Sightings;", Cond.fieldLink RX5 236 "SpeaksForTheChair$Sightings" "length" "I", Cond.fieldLink RX5 262 "SpeaksForTheChair$Sightings" "pieces" "[I", Cond.fieldLink RX5 264 "SpeaksForTheChair$Sightings" "deeds" "[I", Cond.fieldLink RX5 29 "SpeaksForTheChair" "now" "LSpeaksForTheChair$Standing;"]
def wsX5_may_r2 : List Cond := [Cond.fieldLink RX5 113 "SpeaksForTheChair$House" "kinds" "[I", Cond.fieldLink RX5 146 "SpeaksForTheChair$House" "weights" "[I", Cond.fieldLink RX5 266 "SpeaksForTheChair$Sightings" "tells" "[Z", Cond.methodLink RX5 109 yX5_isPiece, Cond.instanceMethod yX5_isPiece, Cond.selects RX5 yX5_isPiece yX5_isPiece, Cond.code yX5_isPiece cX5_isPiece 2 (some .boolean), Cond.fieldLink RX5 91 "SpeaksForTheChair$House" "pieces" "I", Cond.methodLink RX5 116 yX4_roomOf, Cond.instanceMethod yX4_roomOf, Cond.selects RX4 yX4_roomOf yX4_roomOf, Cond.initialized RX4, Cond.code yX4_roomOf cX4_roomOf 2 (some .int), Cond.fieldLink RX4 9 "SpeaksForTheChair$Standing" "rooms" "I", Cond.methodLink RX5 223 yX0_wouldTell, Cond.instanceMethod yX0_wouldTell, Cond.selects RX0 yX0_wouldTell yX0_wouldTell, Cond.initialized RX0, Cond.code yX0_wouldTell cX0_wouldTell 6 (some .boolean), Cond.methodLink RX0 96 yX0_laterOnes, Cond.instanceMethod yX0_laterOnes, Cond.selects RX0 yX0_laterOnes yX0_laterOnes, Cond.code yX0_laterOnes cX0_laterOnes 7 (some .int), Cond.fieldLink RX0 37 "SpeaksForTheChair$House" "deeds" "I"]
def wsX5_may_r3 : List Cond := [Cond.fieldLink RX0 24 "SpeaksForTheChair$House" "hours" "[I", Cond.fieldLink RX0 21 "SpeaksForTheChair$House" "places" "[I", Cond.methodLink RX5 240 yX5_hoursThatMay, Cond.instanceMethod yX5_hoursThatMay, Cond.selects RX5 yX5_hoursThatMay yX5_hoursThatMay, Cond.code yX5_hoursThatMay cX5_hoursThatMay 4 (some .int), Cond.fieldLink RX5 140 "SpeaksForTheChair$House" "places" "[I"]
def wsX5_may : List Cond := .code yX5_may cX5_may 3 (some .int) :: ((wsX5_may_r1 ++ (wsX5_may_r2 ++ wsX5_may_r3)) ++ wsX50 ++ wsX00 ++ wsX30 ++ wsX40)
def wsX5_likely_r1 : List Cond := [Cond.methodLink RX5 134 yX5_isDeed, Cond.instanceMethod yX5_isDeed, Cond.selects RX5 yX5_isDeed yX5_isDeed, Cond.initialized RX5, Cond.code yX5_isDeed cX5_isDeed 2 (some .boolean), Cond.fieldLink RX5 19 "SpeaksForTheChair" "laid" "LSpeaksForTheChair$House;", Cond.fieldLink RX5 220 "SpeaksForTheChair$House" "deeds" "I", Cond.methodLink RX5 80 yX5_isWithin, Cond.static yX5_isWithin, Cond.code yX5_isWithin cX5_isWithin 3 (some .boolean), Cond.methodLink RX5 149 yX5_hasComeOut, Cond.instanceMethod yX5_hasComeOut, Cond.selects RX5 yX5_hasComeOut yX5_hasComeOut, Cond.code yX5_hasComeOut cX5_hasComeOut 2 (some .boolean), Cond.fieldLink RX5 29 "SpeaksForTheChair" "now" "LSpeaksForTheChair$Standing;", Cond.fieldLink RX5 191 "SpeaksForTheChair$Standing" "out" "I", Cond.methodLink RX5 152 yX5_looseTellers, Cond.instanceMethod yX5_looseTellers, Cond.selects RX5 yX5_looseTellers yX5_looseTellers, Cond.code yX5_looseTellers cX5_looseTellers 4 (some .int), Cond.fieldLink RX5 91 "SpeaksForTheChair$House" "pieces" "I", Cond.methodLink RX5 130 yX5_isLoose, Cond.instanceMethod yX5_isLoose, Cond.selects RX5 yX5_isLoose yX5_isLoose]
def wsX5_likely_r2 : List Cond := [Cond.code yX5_isLoose cX5_isLoose 3 (some .boolean), Cond.fieldLink RX5 113 "SpeaksForTheChair$House" "kinds" "[I", Cond.methodLink RX5 123 yX4_howIs, Cond.instanceMethod yX4_howIs, Cond.selects RX4 yX4_howIs yX4_howIs, Cond.initialized RX4, Cond.code yX4_howIs cX4_howIs 2 (some .int), Cond.fieldLink RX4 18 "SpeaksForTheChair$Standing" "spoken" "I", Cond.fieldLink RX4 15 "SpeaksForTheChair$Standing" "bought" "I", Cond.methodLink RX5 256 yX0_forbids, Cond.instanceMethod yX0_forbids, Cond.selects RX0 yX0_forbids yX0_forbids, Cond.initialized RX0, Cond.code yX0_forbids cX0_forbids 2 (some .boolean), Cond.fieldLink RX0 43 "SpeaksForTheChair$House" "law" "I", Cond.methodLink RX5 116 yX4_roomOf, Cond.instanceMethod yX4_roomOf, Cond.selects RX4 yX4_roomOf yX4_roomOf, Cond.code yX4_roomOf cX4_roomOf 2 (some .int), Cond.fieldLink RX4 9 "SpeaksForTheChair$Standing" "rooms" "I", Cond.methodLink RX5 126 yX0_toldBy, Cond.instanceMethod yX0_toldBy, Cond.selects RX0 yX0_toldBy yX0_toldBy, Cond.code yX0_toldBy cX0_toldBy 5 (some .int)]
def wsX5_likely_r3 : List Cond := [Cond.fieldLink RX0 37 "SpeaksForTheChair$House" "deeds" "I", Cond.fieldLink RX0 21 "SpeaksForTheChair$House" "places" "[I", Cond.fieldLink RX0 9 "SpeaksForTheChair$House" "kinds" "[I", Cond.fieldLink RX0 24 "SpeaksForTheChair$House" "hours" "[I", Cond.fieldLink RX0 27 "SpeaksForTheChair$House" "weights" "[I", Cond.methodLink RX0 92 yX0_wouldTell, Cond.instanceMethod yX0_wouldTell, Cond.selects RX0 yX0_wouldTell yX0_wouldTell, Cond.code yX0_wouldTell cX0_wouldTell 6 (some .boolean), Cond.methodLink RX0 96 yX0_laterOnes, Cond.instanceMethod yX0_laterOnes, Cond.selects RX0 yX0_laterOnes yX0_laterOnes, Cond.code yX0_laterOnes cX0_laterOnes 7 (some .int), Cond.methodLink RX5 215 yJ6_bitCount_0f7a4, Cond.static yJ6_bitCount_0f7a4, Cond.initialized RJ6, Cond.code yJ6_bitCount_0f7a4 cJ6_bitCount_0f7a4 1 (some .int), Cond.constant RJ6 265 (1431655765), Cond.constant RJ6 266 (858993459), Cond.constant RJ6 267 (252645135)]
def wsX5_likely : List Cond := .code yX5_likely cX5_likely 9 (some .int) :: ((wsX5_likely_r1 ++ (wsX5_likely_r2 ++ wsX5_likely_r3)) ++ wsX50 ++ wsX00 ++ wsX40)
def wsX5_drawOf : List Cond := .code yX5_drawOf cX5_drawOf 4 (some .int) :: ([.constantLong RX5 270 (7919), .constantLong RX5 272 (6151), .constantLong RX5 274 (65521), .constantLong RX5 276 (2)])
def wsX5_dealOnce_r1 : List Cond := [Cond.fieldLink RX5 19 "SpeaksForTheChair" "laid" "LSpeaksForTheChair$House;", Cond.fieldLink RX5 91 "SpeaksForTheChair$House" "pieces" "I", Cond.fieldLink RX5 33 "SpeaksForTheChair" "trial" "LSpeaksForTheChair$Standing;", Cond.fieldLink RX5 120 "SpeaksForTheChair$House" "prices" "[I", Cond.methodLink RX5 130 yX5_isLoose, Cond.instanceMethod yX5_isLoose, Cond.selects RX5 yX5_isLoose yX5_isLoose, Cond.initialized RX5, Cond.code yX5_isLoose cX5_isLoose 3 (some .boolean), Cond.fieldLink RX5 113 "SpeaksForTheChair$House" "kinds" "[I", Cond.methodLink RX5 123 yX4_howIs, Cond.instanceMethod yX4_howIs, Cond.selects RX4 yX4_howIs yX4_howIs, Cond.initialized RX4, Cond.code yX4_howIs cX4_howIs 2 (some .int), Cond.fieldLink RX4 18 "SpeaksForTheChair$Standing" "spoken" "I", Cond.fieldLink RX4 15 "SpeaksForTheChair$Standing" "bought" "I", Cond.methodLink RX5 256 yX0_forbids, Cond.instanceMethod yX0_forbids, Cond.selects RX0 yX0_forbids yX0_forbids, Cond.initialized RX0, Cond.code yX0_forbids cX0_forbids 2 (some .boolean), Cond.fieldLink RX0 43 "SpeaksForTheChair$House" "law" "I", Cond.methodLink RX5 116 yX4_roomOf]
def wsX5_dealOnce_r2 : List Cond := [Cond.instanceMethod yX4_roomOf, Cond.selects RX4 yX4_roomOf yX4_roomOf, Cond.code yX4_roomOf cX4_roomOf 2 (some .int), Cond.fieldLink RX4 9 "SpeaksForTheChair$Standing" "rooms" "I", Cond.methodLink RX5 126 yX0_toldBy, Cond.instanceMethod yX0_toldBy, Cond.selects RX0 yX0_toldBy yX0_toldBy, Cond.code yX0_toldBy cX0_toldBy 5 (some .int), Cond.fieldLink RX0 37 "SpeaksForTheChair$House" "deeds" "I", Cond.fieldLink RX0 21 "SpeaksForTheChair$House" "places" "[I", Cond.fieldLink RX0 9 "SpeaksForTheChair$House" "kinds" "[I", Cond.fieldLink RX0 24 "SpeaksForTheChair$House" "hours" "[I", Cond.fieldLink RX0 27 "SpeaksForTheChair$House" "weights" "[I", Cond.methodLink RX0 92 yX0_wouldTell, Cond.instanceMethod yX0_wouldTell, Cond.selects RX0 yX0_wouldTell yX0_wouldTell, Cond.code yX0_wouldTell cX0_wouldTell 6 (some .boolean), Cond.methodLink RX0 96 yX0_laterOnes, Cond.instanceMethod yX0_laterOnes, Cond.selects RX0 yX0_laterOnes yX0_laterOnes, Cond.code yX0_laterOnes cX0_laterOnes 7 (some .int), Cond.methodLink RX5 163 yX4_letSpeak, Cond.instanceMethod yX4_letSpeak, Cond.selects RX4 yX4_letSpeak yX4_letSpeak]
def wsX5_dealOnce_r3 : List Cond := [Cond.code yX4_letSpeak cX4_letSpeak 4 (some .int), Cond.fieldLink RX4 21 "SpeaksForTheChair$Standing" "out" "I", Cond.methodLink RX4 31 yJ6_bitCount_0f7a4, Cond.static yJ6_bitCount_0f7a4, Cond.initialized RJ6, Cond.code yJ6_bitCount_0f7a4 cJ6_bitCount_0f7a4 1 (some .int), Cond.constant RJ6 265 (1431655765), Cond.constant RJ6 266 (858993459), Cond.constant RJ6 267 (252645135), Cond.methodLink RX5 166 yX5_canBeBought, Cond.instanceMethod yX5_canBeBought, Cond.selects RX5 yX5_canBeBought yX5_canBeBought, Cond.code yX5_canBeBought cX5_canBeBought 3 (some .boolean), Cond.fieldLink RX5 172 "SpeaksForTheChair$Standing" "coins" "I", Cond.methodLink RX5 169 yX4_sell, Cond.instanceMethod yX4_sell, Cond.selects RX4 yX4_sell yX4_sell, Cond.code yX4_sell cX4_sell 3 none, Cond.fieldLink RX4 24 "SpeaksForTheChair$Standing" "coins" "I", Cond.methodLink RX5 173 yX4_move, Cond.instanceMethod yX4_move, Cond.selects RX4 yX4_move yX4_move, Cond.code yX4_move cX4_move 3 none]
def wsX5_dealOnce : List Cond := .code yX5_dealOnce cX5_dealOnce 4 none :: ((wsX5_dealOnce_r1 ++ (wsX5_dealOnce_r2 ++ wsX5_dealOnce_r3)) ++ wsX50 ++ wsX00 ++ wsX40)
def wsX5_sale_r1 : List Cond := [Cond.fieldLink RX5 33 "SpeaksForTheChair" "trial" "LSpeaksForTheChair$Standing;", Cond.fieldLink RX5 29 "SpeaksForTheChair" "now" "LSpeaksForTheChair$Standing;", Cond.fieldLink RX5 191 "SpeaksForTheChair$Standing" "out" "I", Cond.fieldLink RX5 172 "SpeaksForTheChair$Standing" "coins" "I", Cond.methodLink RX5 80 yX5_isWithin, Cond.static yX5_isWithin, Cond.initialized RX5, Cond.code yX5_isWithin cX5_isWithin 3 (some .boolean), Cond.methodLink RX5 155 yX4_packed, Cond.instanceMethod yX4_packed, Cond.selects RX4 yX4_packed yX4_packed, Cond.initialized RX4, Cond.code yX4_packed cX4_packed 1 (some .long), Cond.fieldLink RX4 24 "SpeaksForTheChair$Standing" "coins" "I", Cond.fieldLink RX4 21 "SpeaksForTheChair$Standing" "out" "I", Cond.fieldLink RX4 18 "SpeaksForTheChair$Standing" "spoken" "I", Cond.fieldLink RX4 15 "SpeaksForTheChair$Standing" "bought" "I", Cond.fieldLink RX4 9 "SpeaksForTheChair$Standing" "rooms" "I", Cond.methodLink RX5 182 yX4_unpack, Cond.instanceMethod yX4_unpack, Cond.selects RX4 yX4_unpack yX4_unpack, Cond.code yX4_unpack cX4_unpack 3 none, Cond.constantLong RX4 27 (65535), Cond.constantLong RX4 29 (255)]
def wsX5_sale_r2 : List Cond := [Cond.methodLink RX5 243 yX5_drawOf, Cond.static yX5_drawOf, Cond.code yX5_drawOf cX5_drawOf 4 (some .int), Cond.constantLong RX5 270 (7919), Cond.constantLong RX5 272 (6151), Cond.constantLong RX5 274 (65521), Cond.constantLong RX5 276 (2), Cond.methodLink RX5 246 yX5_dealOnce, Cond.instanceMethod yX5_dealOnce, Cond.selects RX5 yX5_dealOnce yX5_dealOnce, Cond.code yX5_dealOnce cX5_dealOnce 4 none, Cond.fieldLink RX5 19 "SpeaksForTheChair" "laid" "LSpeaksForTheChair$House;", Cond.fieldLink RX5 91 "SpeaksForTheChair$House" "pieces" "I", Cond.fieldLink RX5 120 "SpeaksForTheChair$House" "prices" "[I", Cond.methodLink RX5 130 yX5_isLoose, Cond.instanceMethod yX5_isLoose, Cond.selects RX5 yX5_isLoose yX5_isLoose, Cond.code yX5_isLoose cX5_isLoose 3 (some .boolean), Cond.fieldLink RX5 113 "SpeaksForTheChair$House" "kinds" "[I", Cond.methodLink RX5 123 yX4_howIs, Cond.instanceMethod yX4_howIs, Cond.selects RX4 yX4_howIs yX4_howIs, Cond.code yX4_howIs cX4_howIs 2 (some .int), Cond.methodLink RX5 256 yX0_forbids]
def wsX5_sale_r3 : List Cond := [Cond.instanceMethod yX0_forbids, Cond.selects RX0 yX0_forbids yX0_forbids, Cond.initialized RX0, Cond.code yX0_forbids cX0_forbids 2 (some .boolean), Cond.fieldLink RX0 43 "SpeaksForTheChair$House" "law" "I", Cond.methodLink RX5 116 yX4_roomOf, Cond.instanceMethod yX4_roomOf, Cond.selects RX4 yX4_roomOf yX4_roomOf, Cond.code yX4_roomOf cX4_roomOf 2 (some .int), Cond.methodLink RX5 126 yX0_toldBy, Cond.instanceMethod yX0_toldBy, Cond.selects RX0 yX0_toldBy yX0_toldBy, Cond.code yX0_toldBy cX0_toldBy 5 (some .int), Cond.fieldLink RX0 37 "SpeaksForTheChair$House" "deeds" "I", Cond.fieldLink RX0 21 "SpeaksForTheChair$House" "places" "[I", Cond.fieldLink RX0 9 "SpeaksForTheChair$House" "kinds" "[I", Cond.fieldLink RX0 24 "SpeaksForTheChair$House" "hours" "[I", Cond.fieldLink RX0 27 "SpeaksForTheChair$House" "weights" "[I", Cond.methodLink RX0 92 yX0_wouldTell, Cond.instanceMethod yX0_wouldTell, Cond.selects RX0 yX0_wouldTell yX0_wouldTell, Cond.code yX0_wouldTell cX0_wouldTell 6 (some .boolean), Cond.methodLink RX0 96 yX0_laterOnes, Cond.instanceMethod yX0_laterOnes]
def wsX5_sale_r4 : List Cond := [Cond.selects RX0 yX0_laterOnes yX0_laterOnes, Cond.code yX0_laterOnes cX0_laterOnes 7 (some .int), Cond.methodLink RX5 163 yX4_letSpeak, Cond.instanceMethod yX4_letSpeak, Cond.selects RX4 yX4_letSpeak yX4_letSpeak, Cond.code yX4_letSpeak cX4_letSpeak 4 (some .int), Cond.methodLink RX4 31 yJ6_bitCount_0f7a4, Cond.static yJ6_bitCount_0f7a4, Cond.initialized RJ6, Cond.code yJ6_bitCount_0f7a4 cJ6_bitCount_0f7a4 1 (some .int), Cond.constant RJ6 265 (1431655765), Cond.constant RJ6 266 (858993459), Cond.constant RJ6 267 (252645135), Cond.methodLink RX5 166 yX5_canBeBought, Cond.instanceMethod yX5_canBeBought, Cond.selects RX5 yX5_canBeBought yX5_canBeBought, Cond.code yX5_canBeBought cX5_canBeBought 3 (some .boolean), Cond.methodLink RX5 169 yX4_sell, Cond.instanceMethod yX4_sell, Cond.selects RX4 yX4_sell yX4_sell, Cond.code yX4_sell cX4_sell 3 none, Cond.methodLink RX5 173 yX4_move, Cond.instanceMethod yX4_move, Cond.selects RX4 yX4_move yX4_move]
def wsX5_sale_r5 : List Cond := [Cond.code yX4_move cX4_move 3 none]
def wsX5_sale : List Cond := .code yX5_sale cX5_sale 5 (some .int) :: ((wsX5_sale_r1 ++ (wsX5_sale_r2 ++ (wsX5_sale_r3 ++ (wsX5_sale_r4 ++ wsX5_sale_r5)))) ++ wsX50 ++ wsX40 ++ wsX00)
def wsX5_keep : List Cond := .code yX5_keep cX5_keep 1 (some .int) :: ([.fieldLink RX5 106 "SpeaksForTheChair" "keptCount" "I", .fieldLink RX5 50 "SpeaksForTheChair" "kept" "[J", .fieldLink RX5 29 "SpeaksForTheChair" "now" "LSpeaksForTheChair$Standing;", .methodLink RX5 155 yX4_packed, .instanceMethod yX4_packed, .selects RX4 yX4_packed yX4_packed, .initialized RX4, .code yX4_packed cX4_packed 1 (some .long), .fieldLink RX4 24 "SpeaksForTheChair$Standing" "coins" "I", .fieldLink RX4 21 "SpeaksForTheChair$Standing" "out" "I", .fieldLink RX4 18 "SpeaksForTheChair$Standing" "spoken" "I", .fieldLink RX4 15 "SpeaksForTheChair$Standing" "bought" "I", .fieldLink RX4 9 "SpeaksForTheChair$Standing" "rooms" "I"] ++ wsX50 ++ wsX40)
def wsX5_back : List Cond := .code yX5_back cX5_back 1 (some .int) :: ([.fieldLink RX5 106 "SpeaksForTheChair" "keptCount" "I", .fieldLink RX5 29 "SpeaksForTheChair" "now" "LSpeaksForTheChair$Standing;", .fieldLink RX5 50 "SpeaksForTheChair" "kept" "[J", .fieldLink RX5 39 "SpeaksForTheChair" "past" "LSpeaksForTheChair$Past;", .methodLink RX5 182 yX4_unpack, .instanceMethod yX4_unpack, .selects RX4 yX4_unpack yX4_unpack, .initialized RX4, .code yX4_unpack cX4_unpack 3 none, .constantLong RX4 27 (65535), .fieldLink RX4 9 "SpeaksForTheChair$Standing" "rooms" "I", .constantLong RX4 29 (255), .fieldLink RX4 15 "SpeaksForTheChair$Standing" "bought" "I", .fieldLink RX4 18 "SpeaksForTheChair$Standing" "spoken" "I", .fieldLink RX4 21 "SpeaksForTheChair$Standing" "out" "I", .fieldLink RX4 24 "SpeaksForTheChair$Standing" "coins" "I", .methodLink RX5 104 yX2_clear, .instanceMethod yX2_clear, .selects RX2 yX2_clear yX2_clear, .initialized RX2, .code yX2_clear cX2_clear 1 none, .fieldLink RX2 19 "SpeaksForTheChair$Past" "depth" "I"] ++ wsX50 ++ wsX40 ++ wsX20)
def wsX5_count_r1 : List Cond := [Cond.fieldLink RX5 19 "SpeaksForTheChair" "laid" "LSpeaksForTheChair$House;", Cond.fieldLink RX5 91 "SpeaksForTheChair$House" "pieces" "I", Cond.fieldLink RX5 220 "SpeaksForTheChair$House" "deeds" "I", Cond.fieldLink RX5 29 "SpeaksForTheChair" "now" "LSpeaksForTheChair$Standing;", Cond.fieldLink RX5 172 "SpeaksForTheChair$Standing" "coins" "I", Cond.fieldLink RX5 250 "SpeaksForTheChair$Standing" "bought" "I", Cond.fieldLink RX5 253 "SpeaksForTheChair$Standing" "spoken" "I", Cond.fieldLink RX5 191 "SpeaksForTheChair$Standing" "out" "I", Cond.fieldLink RX5 46 "SpeaksForTheChair" "sightings" "LSpeaksForTheChair$Sightings;", Cond.fieldLink RX5 236 "SpeaksForTheChair$Sightings" "length" "I", Cond.fieldLink RX5 39 "SpeaksForTheChair" "past" "LSpeaksForTheChair$Past;", Cond.fieldLink RX5 176 "SpeaksForTheChair$Past" "depth" "I", Cond.fieldLink RX5 106 "SpeaksForTheChair" "keptCount" "I", Cond.fieldLink RX5 10 "SpeaksForTheChair" "page" "LSpeaksForTheChair$Page;", Cond.fieldLink RX5 84 "SpeaksForTheChair$Page" "length" "I", Cond.methodLink RX5 203 yX5_looseOnes, Cond.instanceMethod yX5_looseOnes, Cond.selects RX5 yX5_looseOnes yX5_looseOnes, Cond.initialized RX5, Cond.code yX5_looseOnes cX5_looseOnes 3 (some .int), Cond.methodLink RX5 130 yX5_isLoose, Cond.instanceMethod yX5_isLoose, Cond.selects RX5 yX5_isLoose yX5_isLoose, Cond.code yX5_isLoose cX5_isLoose 3 (some .boolean)]
def wsX5_count_r2 : List Cond := [Cond.fieldLink RX5 113 "SpeaksForTheChair$House" "kinds" "[I", Cond.methodLink RX5 123 yX4_howIs, Cond.instanceMethod yX4_howIs, Cond.selects RX4 yX4_howIs yX4_howIs, Cond.initialized RX4, Cond.code yX4_howIs cX4_howIs 2 (some .int), Cond.fieldLink RX4 18 "SpeaksForTheChair$Standing" "spoken" "I", Cond.fieldLink RX4 15 "SpeaksForTheChair$Standing" "bought" "I", Cond.methodLink RX5 256 yX0_forbids, Cond.instanceMethod yX0_forbids, Cond.selects RX0 yX0_forbids yX0_forbids, Cond.initialized RX0, Cond.code yX0_forbids cX0_forbids 2 (some .boolean), Cond.fieldLink RX0 43 "SpeaksForTheChair$House" "law" "I", Cond.methodLink RX5 215 yJ6_bitCount_0f7a4, Cond.static yJ6_bitCount_0f7a4, Cond.initialized RJ6, Cond.code yJ6_bitCount_0f7a4 cJ6_bitCount_0f7a4 1 (some .int), Cond.constant RJ6 265 (1431655765), Cond.constant RJ6 266 (858993459), Cond.constant RJ6 267 (252645135)]
def wsX5_count : List Cond := .code yX5_count cX5_count 2 (some .int) :: ((wsX5_count_r1 ++ wsX5_count_r2) ++ wsX50 ++ wsX00 ++ wsX40 ++ wsX30 ++ wsX20 ++ wsX10)
def wsX6_clearTold : List Cond := .code yX6_clearTold cX6_clearTold 1 none :: ([.fieldLink RX6 67 "SpeaksForTheChairModel" "readPieces" "I", .fieldLink RX6 70 "SpeaksForTheChairModel" "readDeeds" "I", .fieldLink RX6 57 "SpeaksForTheChairModel" "readCoins" "I", .fieldLink RX6 61 "SpeaksForTheChairModel" "readLaw" "I"] ++ wsX60)
def wsX6_tellsPiece : List Cond := .code yX6_tellsPiece cX6_tellsPiece 4 none :: ([.fieldLink RX6 34 "SpeaksForTheChairModel" "readPiece" "[I", .fieldLink RX6 67 "SpeaksForTheChairModel" "readPieces" "I", .fieldLink RX6 37 "SpeaksForTheChairModel" "readRoom" "[I"] ++ wsX60)
def wsX6_tellsDeed : List Cond := .code yX6_tellsDeed cX6_tellsDeed 5 none :: ([.fieldLink RX6 40 "SpeaksForTheChairModel" "readDeed" "[I", .fieldLink RX6 70 "SpeaksForTheChairModel" "readDeeds" "I"] ++ wsX60)
def wsX6_copies : List Cond := .code yX6_copies cX6_copies 6 none :: ([])
def wsX6_settles : List Cond := .code yX6_settles cX6_settles 2 none :: ([.fieldLink RX6 67 "SpeaksForTheChairModel" "readPieces" "I", .fieldLink RX6 73 "SpeaksForTheChairModel" "pieces" "I", .fieldLink RX6 7 "SpeaksForTheChairModel" "piece" "[I", .fieldLink RX6 34 "SpeaksForTheChairModel" "readPiece" "[I", .fieldLink RX6 70 "SpeaksForTheChairModel" "readDeeds" "I", .fieldLink RX6 80 "SpeaksForTheChairModel" "deeds" "I", .fieldLink RX6 13 "SpeaksForTheChairModel" "deed" "[I", .fieldLink RX6 40 "SpeaksForTheChairModel" "readDeed" "[I", .fieldLink RX6 61 "SpeaksForTheChairModel" "readLaw" "I", .fieldLink RX6 127 "SpeaksForTheChairModel" "law" "I", .fieldLink RX6 16 "SpeaksForTheChairModel" "st" "[I", .fieldLink RX6 57 "SpeaksForTheChairModel" "readCoins" "I", .fieldLink RX6 37 "SpeaksForTheChairModel" "readRoom" "[I", .fieldLink RX6 130 "SpeaksForTheChairModel" "acts" "I", .fieldLink RX6 133 "SpeaksForTheChairModel" "keeps" "I", .fieldLink RX6 136 "SpeaksForTheChairModel" "seens" "I", .methodLink RX6 123 yX6_copies, .static yX6_copies, .initialized RX6, .code yX6_copies cX6_copies 6 none] ++ wsX60)
def wsX6_init_r1 : List Cond := [Cond.methodLink RX6 1 objectInit, Cond.instanceMethod objectInit, Cond.code objectInit ⟨#[0xb1]⟩ 1 none, Cond.arrayClass .int, Cond.fieldLink RX6 7 "SpeaksForTheChairModel" "piece" "[I", Cond.fieldLink RX6 13 "SpeaksForTheChairModel" "deed" "[I", Cond.fieldLink RX6 16 "SpeaksForTheChairModel" "st" "[I", Cond.fieldLink RX6 19 "SpeaksForTheChairModel" "was" "[I", Cond.fieldLink RX6 22 "SpeaksForTheChairModel" "kept" "[I", Cond.fieldLink RX6 25 "SpeaksForTheChairModel" "seen" "[I", Cond.fieldLink RX6 28 "SpeaksForTheChairModel" "text" "[I", Cond.fieldLink RX6 31 "SpeaksForTheChairModel" "told" "[I", Cond.fieldLink RX6 34 "SpeaksForTheChairModel" "readPiece" "[I", Cond.fieldLink RX6 37 "SpeaksForTheChairModel" "readRoom" "[I", Cond.fieldLink RX6 40 "SpeaksForTheChairModel" "readDeed" "[I", Cond.fieldLink RX6 43 "SpeaksForTheChairModel" "now" "[I", Cond.fieldLink RX6 57 "SpeaksForTheChairModel" "readCoins" "I", Cond.fieldLink RX6 61 "SpeaksForTheChairModel" "readLaw" "I", Cond.methodLink RX6 46 yX6_clearTold, Cond.instanceMethod yX6_clearTold, Cond.selects RX6 yX6_clearTold yX6_clearTold, Cond.initialized RX6, Cond.code yX6_clearTold cX6_clearTold 1 none, Cond.fieldLink RX6 67 "SpeaksForTheChairModel" "readPieces" "I"]
def wsX6_init_r2 : List Cond := [Cond.fieldLink RX6 70 "SpeaksForTheChairModel" "readDeeds" "I", Cond.methodLink RX6 49 yX6_tellsPiece, Cond.instanceMethod yX6_tellsPiece, Cond.selects RX6 yX6_tellsPiece yX6_tellsPiece, Cond.code yX6_tellsPiece cX6_tellsPiece 4 none, Cond.methodLink RX6 53 yX6_tellsDeed, Cond.instanceMethod yX6_tellsDeed, Cond.selects RX6 yX6_tellsDeed yX6_tellsDeed, Cond.code yX6_tellsDeed cX6_tellsDeed 5 none, Cond.methodLink RX6 64 yX6_settles, Cond.instanceMethod yX6_settles, Cond.selects RX6 yX6_settles yX6_settles, Cond.code yX6_settles cX6_settles 2 none, Cond.fieldLink RX6 73 "SpeaksForTheChairModel" "pieces" "I", Cond.fieldLink RX6 80 "SpeaksForTheChairModel" "deeds" "I", Cond.fieldLink RX6 127 "SpeaksForTheChairModel" "law" "I", Cond.fieldLink RX6 130 "SpeaksForTheChairModel" "acts" "I", Cond.fieldLink RX6 133 "SpeaksForTheChairModel" "keeps" "I", Cond.fieldLink RX6 136 "SpeaksForTheChairModel" "seens" "I", Cond.methodLink RX6 123 yX6_copies, Cond.static yX6_copies, Cond.code yX6_copies cX6_copies 6 none]
def wsX6_init : List Cond := .code yX6_init cX6_init 1 none :: ((wsX6_init_r1 ++ wsX6_init_r2) ++ wsX60)
def wsX6_in : List Cond := .code yX6_in cX6_in 3 (some .boolean) :: ([])
def wsX6_has : List Cond := .code yX6_has cX6_has 2 (some .boolean) :: ([])
def wsX6_bits : List Cond := .code yX6_bits cX6_bits 3 (some .int) :: ([])
def wsX6_isPiece : List Cond := .code yX6_isPiece cX6_isPiece 2 (some .boolean) :: ([.fieldLink RX6 73 "SpeaksForTheChairModel" "pieces" "I", .methodLink RX6 76 yX6_in, .static yX6_in, .initialized RX6, .code yX6_in cX6_in 3 (some .boolean)] ++ wsX60)
def wsX6_isDeed : List Cond := .code yX6_isDeed cX6_isDeed 2 (some .boolean) :: ([.fieldLink RX6 80 "SpeaksForTheChairModel" "deeds" "I", .methodLink RX6 76 yX6_in, .static yX6_in, .initialized RX6, .code yX6_in cX6_in 3 (some .boolean)] ++ wsX60)
def wsX6_write : List Cond := .code yX6_write cX6_write 2 (some .int) :: ([.fieldLink RX6 83 "SpeaksForTheChairModel" "texted" "I", .fieldLink RX6 28 "SpeaksForTheChairModel" "text" "[I", .methodLink RX6 76 yX6_in, .static yX6_in, .initialized RX6, .code yX6_in cX6_in 3 (some .boolean)] ++ wsX60)
def wsX6_wipe : List Cond := .code yX6_wipe cX6_wipe 2 (some .int) :: ([.fieldLink RX6 83 "SpeaksForTheChairModel" "texted" "I"] ++ wsX60)
def wsX6_letterAt : List Cond := .code yX6_letterAt cX6_letterAt 2 (some .int) :: ([.fieldLink RX6 83 "SpeaksForTheChairModel" "texted" "I", .fieldLink RX6 28 "SpeaksForTheChairModel" "text" "[I"] ++ wsX60)
def wsX6_isFigure : List Cond := .code yX6_isFigure cX6_isFigure 1 (some .boolean) :: ([.methodLink RX6 76 yX6_in, .static yX6_in, .initialized RX6, .code yX6_in cX6_in 3 (some .boolean)])
def wsX6_readNumbers : List Cond := .code yX6_readNumbers cX6_readNumbers 3 (some .boolean) :: ([.fieldLink RX6 86 "SpeaksForTheChairModel" "at" "I", .fieldLink RX6 31 "SpeaksForTheChairModel" "told" "[I", .methodLink RX6 89 yX6_letterAt, .instanceMethod yX6_letterAt, .selects RX6 yX6_letterAt yX6_letterAt, .initialized RX6, .code yX6_letterAt cX6_letterAt 2 (some .int), .fieldLink RX6 83 "SpeaksForTheChairModel" "texted" "I", .fieldLink RX6 28 "SpeaksForTheChairModel" "text" "[I", .methodLink RX6 93 yX6_isFigure, .static yX6_isFigure, .code yX6_isFigure cX6_isFigure 1 (some .boolean), .methodLink RX6 76 yX6_in, .static yX6_in, .code yX6_in cX6_in 3 (some .boolean)] ++ wsX60)
def wsX6_isTold : List Cond := .code yX6_isTold cX6_isTold 4 (some .boolean) :: ([.fieldLink RX6 31 "SpeaksForTheChairModel" "told" "[I", .methodLink RX6 76 yX6_in, .static yX6_in, .initialized RX6, .code yX6_in cX6_in 3 (some .boolean)] ++ wsX60)
def wsX6_readPieceOf_r1 : List Cond := [Cond.fieldLink RX6 67 "SpeaksForTheChairModel" "readPieces" "I", Cond.fieldLink RX6 31 "SpeaksForTheChairModel" "told" "[I", Cond.methodLink RX6 97 yX6_readNumbers, Cond.instanceMethod yX6_readNumbers, Cond.selects RX6 yX6_readNumbers yX6_readNumbers, Cond.initialized RX6, Cond.code yX6_readNumbers cX6_readNumbers 3 (some .boolean), Cond.fieldLink RX6 86 "SpeaksForTheChairModel" "at" "I", Cond.methodLink RX6 89 yX6_letterAt, Cond.instanceMethod yX6_letterAt, Cond.selects RX6 yX6_letterAt yX6_letterAt, Cond.code yX6_letterAt cX6_letterAt 2 (some .int), Cond.fieldLink RX6 83 "SpeaksForTheChairModel" "texted" "I", Cond.fieldLink RX6 28 "SpeaksForTheChairModel" "text" "[I", Cond.methodLink RX6 93 yX6_isFigure, Cond.static yX6_isFigure, Cond.code yX6_isFigure cX6_isFigure 1 (some .boolean), Cond.methodLink RX6 76 yX6_in, Cond.static yX6_in, Cond.code yX6_in cX6_in 3 (some .boolean), Cond.methodLink RX6 100 yX6_isTold, Cond.instanceMethod yX6_isTold, Cond.selects RX6 yX6_isTold yX6_isTold, Cond.code yX6_isTold cX6_isTold 4 (some .boolean)]
def wsX6_readPieceOf_r2 : List Cond := [Cond.methodLink RX6 49 yX6_tellsPiece, Cond.instanceMethod yX6_tellsPiece, Cond.selects RX6 yX6_tellsPiece yX6_tellsPiece, Cond.code yX6_tellsPiece cX6_tellsPiece 4 none, Cond.fieldLink RX6 34 "SpeaksForTheChairModel" "readPiece" "[I", Cond.fieldLink RX6 37 "SpeaksForTheChairModel" "readRoom" "[I"]
def wsX6_readPieceOf : List Cond := .code yX6_readPieceOf cX6_readPieceOf 1 (some .boolean) :: ((wsX6_readPieceOf_r1 ++ wsX6_readPieceOf_r2) ++ wsX60)
def wsX6_readDeedOf_r1 : List Cond := [Cond.fieldLink RX6 70 "SpeaksForTheChairModel" "readDeeds" "I", Cond.fieldLink RX6 31 "SpeaksForTheChairModel" "told" "[I", Cond.methodLink RX6 97 yX6_readNumbers, Cond.instanceMethod yX6_readNumbers, Cond.selects RX6 yX6_readNumbers yX6_readNumbers, Cond.initialized RX6, Cond.code yX6_readNumbers cX6_readNumbers 3 (some .boolean), Cond.fieldLink RX6 86 "SpeaksForTheChairModel" "at" "I", Cond.methodLink RX6 89 yX6_letterAt, Cond.instanceMethod yX6_letterAt, Cond.selects RX6 yX6_letterAt yX6_letterAt, Cond.code yX6_letterAt cX6_letterAt 2 (some .int), Cond.fieldLink RX6 83 "SpeaksForTheChairModel" "texted" "I", Cond.fieldLink RX6 28 "SpeaksForTheChairModel" "text" "[I", Cond.methodLink RX6 93 yX6_isFigure, Cond.static yX6_isFigure, Cond.code yX6_isFigure cX6_isFigure 1 (some .boolean), Cond.methodLink RX6 76 yX6_in, Cond.static yX6_in, Cond.code yX6_in cX6_in 3 (some .boolean), Cond.methodLink RX6 100 yX6_isTold, Cond.instanceMethod yX6_isTold, Cond.selects RX6 yX6_isTold yX6_isTold, Cond.code yX6_isTold cX6_isTold 4 (some .boolean)]
def wsX6_readDeedOf_r2 : List Cond := [Cond.methodLink RX6 53 yX6_tellsDeed, Cond.instanceMethod yX6_tellsDeed, Cond.selects RX6 yX6_tellsDeed yX6_tellsDeed, Cond.code yX6_tellsDeed cX6_tellsDeed 5 none, Cond.fieldLink RX6 40 "SpeaksForTheChairModel" "readDeed" "[I"]
def wsX6_readDeedOf : List Cond := .code yX6_readDeedOf cX6_readDeedOf 1 (some .boolean) :: ((wsX6_readDeedOf_r1 ++ wsX6_readDeedOf_r2) ++ wsX60)
def wsX6_readCoinsOf : List Cond := .code yX6_readCoinsOf cX6_readCoinsOf 2 (some .boolean) :: ([.fieldLink RX6 31 "SpeaksForTheChairModel" "told" "[I", .fieldLink RX6 57 "SpeaksForTheChairModel" "readCoins" "I", .methodLink RX6 97 yX6_readNumbers, .instanceMethod yX6_readNumbers, .selects RX6 yX6_readNumbers yX6_readNumbers, .initialized RX6, .code yX6_readNumbers cX6_readNumbers 3 (some .boolean), .fieldLink RX6 86 "SpeaksForTheChairModel" "at" "I", .methodLink RX6 89 yX6_letterAt, .instanceMethod yX6_letterAt, .selects RX6 yX6_letterAt yX6_letterAt, .code yX6_letterAt cX6_letterAt 2 (some .int), .fieldLink RX6 83 "SpeaksForTheChairModel" "texted" "I", .fieldLink RX6 28 "SpeaksForTheChairModel" "text" "[I", .methodLink RX6 93 yX6_isFigure, .static yX6_isFigure, .code yX6_isFigure cX6_isFigure 1 (some .boolean), .methodLink RX6 76 yX6_in, .static yX6_in, .code yX6_in cX6_in 3 (some .boolean)] ++ wsX60)
def wsX6_readLawOf : List Cond := .code yX6_readLawOf cX6_readLawOf 1 (some .boolean) :: ([.fieldLink RX6 61 "SpeaksForTheChairModel" "readLaw" "I", .fieldLink RX6 31 "SpeaksForTheChairModel" "told" "[I", .methodLink RX6 97 yX6_readNumbers, .instanceMethod yX6_readNumbers, .selects RX6 yX6_readNumbers yX6_readNumbers, .initialized RX6, .code yX6_readNumbers cX6_readNumbers 3 (some .boolean), .fieldLink RX6 86 "SpeaksForTheChairModel" "at" "I", .methodLink RX6 89 yX6_letterAt, .instanceMethod yX6_letterAt, .selects RX6 yX6_letterAt yX6_letterAt, .code yX6_letterAt cX6_letterAt 2 (some .int), .fieldLink RX6 83 "SpeaksForTheChairModel" "texted" "I", .fieldLink RX6 28 "SpeaksForTheChairModel" "text" "[I", .methodLink RX6 93 yX6_isFigure, .static yX6_isFigure, .code yX6_isFigure cX6_isFigure 1 (some .boolean), .methodLink RX6 76 yX6_in, .static yX6_in, .code yX6_in cX6_in 3 (some .boolean), .methodLink RX6 100 yX6_isTold, .instanceMethod yX6_isTold, .selects RX6 yX6_isTold yX6_isTold, .code yX6_isTold cX6_isTold 4 (some .boolean)] ++ wsX60)
def wsX6_readItem_r1 : List Cond := [Cond.fieldLink RX6 86 "SpeaksForTheChairModel" "at" "I", Cond.methodLink RX6 89 yX6_letterAt, Cond.instanceMethod yX6_letterAt, Cond.selects RX6 yX6_letterAt yX6_letterAt, Cond.initialized RX6, Cond.code yX6_letterAt cX6_letterAt 2 (some .int), Cond.fieldLink RX6 83 "SpeaksForTheChairModel" "texted" "I", Cond.fieldLink RX6 28 "SpeaksForTheChairModel" "text" "[I", Cond.methodLink RX6 103 yX6_readPieceOf, Cond.instanceMethod yX6_readPieceOf, Cond.selects RX6 yX6_readPieceOf yX6_readPieceOf, Cond.code yX6_readPieceOf cX6_readPieceOf 1 (some .boolean), Cond.fieldLink RX6 67 "SpeaksForTheChairModel" "readPieces" "I", Cond.fieldLink RX6 31 "SpeaksForTheChairModel" "told" "[I", Cond.methodLink RX6 97 yX6_readNumbers, Cond.instanceMethod yX6_readNumbers, Cond.selects RX6 yX6_readNumbers yX6_readNumbers, Cond.code yX6_readNumbers cX6_readNumbers 3 (some .boolean), Cond.methodLink RX6 93 yX6_isFigure, Cond.static yX6_isFigure, Cond.code yX6_isFigure cX6_isFigure 1 (some .boolean), Cond.methodLink RX6 76 yX6_in, Cond.static yX6_in, Cond.code yX6_in cX6_in 3 (some .boolean)]
def wsX6_readItem_r2 : List Cond := [Cond.methodLink RX6 100 yX6_isTold, Cond.instanceMethod yX6_isTold, Cond.selects RX6 yX6_isTold yX6_isTold, Cond.code yX6_isTold cX6_isTold 4 (some .boolean), Cond.methodLink RX6 49 yX6_tellsPiece, Cond.instanceMethod yX6_tellsPiece, Cond.selects RX6 yX6_tellsPiece yX6_tellsPiece, Cond.code yX6_tellsPiece cX6_tellsPiece 4 none, Cond.fieldLink RX6 34 "SpeaksForTheChairModel" "readPiece" "[I", Cond.fieldLink RX6 37 "SpeaksForTheChairModel" "readRoom" "[I", Cond.methodLink RX6 107 yX6_readDeedOf, Cond.instanceMethod yX6_readDeedOf, Cond.selects RX6 yX6_readDeedOf yX6_readDeedOf, Cond.code yX6_readDeedOf cX6_readDeedOf 1 (some .boolean), Cond.fieldLink RX6 70 "SpeaksForTheChairModel" "readDeeds" "I", Cond.methodLink RX6 53 yX6_tellsDeed, Cond.instanceMethod yX6_tellsDeed, Cond.selects RX6 yX6_tellsDeed yX6_tellsDeed, Cond.code yX6_tellsDeed cX6_tellsDeed 5 none, Cond.fieldLink RX6 40 "SpeaksForTheChairModel" "readDeed" "[I", Cond.methodLink RX6 110 yX6_readCoinsOf, Cond.instanceMethod yX6_readCoinsOf, Cond.selects RX6 yX6_readCoinsOf yX6_readCoinsOf, Cond.code yX6_readCoinsOf cX6_readCoinsOf 2 (some .boolean)]
def wsX6_readItem_r3 : List Cond := [Cond.fieldLink RX6 57 "SpeaksForTheChairModel" "readCoins" "I", Cond.methodLink RX6 113 yX6_readLawOf, Cond.instanceMethod yX6_readLawOf, Cond.selects RX6 yX6_readLawOf yX6_readLawOf, Cond.code yX6_readLawOf cX6_readLawOf 1 (some .boolean), Cond.fieldLink RX6 61 "SpeaksForTheChairModel" "readLaw" "I"]
def wsX6_readItem : List Cond := .code yX6_readItem cX6_readItem 2 (some .boolean) :: ((wsX6_readItem_r1 ++ (wsX6_readItem_r2 ++ wsX6_readItem_r3)) ++ wsX60)
def wsX6_fault_r1 : List Cond := [Cond.fieldLink RX6 86 "SpeaksForTheChairModel" "at" "I", Cond.fieldLink RX6 83 "SpeaksForTheChairModel" "texted" "I", Cond.methodLink RX6 46 yX6_clearTold, Cond.instanceMethod yX6_clearTold, Cond.selects RX6 yX6_clearTold yX6_clearTold, Cond.initialized RX6, Cond.code yX6_clearTold cX6_clearTold 1 none, Cond.fieldLink RX6 67 "SpeaksForTheChairModel" "readPieces" "I", Cond.fieldLink RX6 70 "SpeaksForTheChairModel" "readDeeds" "I", Cond.fieldLink RX6 57 "SpeaksForTheChairModel" "readCoins" "I", Cond.fieldLink RX6 61 "SpeaksForTheChairModel" "readLaw" "I", Cond.methodLink RX6 116 yX6_readItem, Cond.instanceMethod yX6_readItem, Cond.selects RX6 yX6_readItem yX6_readItem, Cond.code yX6_readItem cX6_readItem 2 (some .boolean), Cond.methodLink RX6 89 yX6_letterAt, Cond.instanceMethod yX6_letterAt, Cond.selects RX6 yX6_letterAt yX6_letterAt, Cond.code yX6_letterAt cX6_letterAt 2 (some .int), Cond.fieldLink RX6 28 "SpeaksForTheChairModel" "text" "[I", Cond.methodLink RX6 103 yX6_readPieceOf, Cond.instanceMethod yX6_readPieceOf, Cond.selects RX6 yX6_readPieceOf yX6_readPieceOf, Cond.code yX6_readPieceOf cX6_readPieceOf 1 (some .boolean)]
def wsX6_fault_r2 : List Cond := [Cond.fieldLink RX6 31 "SpeaksForTheChairModel" "told" "[I", Cond.methodLink RX6 97 yX6_readNumbers, Cond.instanceMethod yX6_readNumbers, Cond.selects RX6 yX6_readNumbers yX6_readNumbers, Cond.code yX6_readNumbers cX6_readNumbers 3 (some .boolean), Cond.methodLink RX6 93 yX6_isFigure, Cond.static yX6_isFigure, Cond.code yX6_isFigure cX6_isFigure 1 (some .boolean), Cond.methodLink RX6 76 yX6_in, Cond.static yX6_in, Cond.code yX6_in cX6_in 3 (some .boolean), Cond.methodLink RX6 100 yX6_isTold, Cond.instanceMethod yX6_isTold, Cond.selects RX6 yX6_isTold yX6_isTold, Cond.code yX6_isTold cX6_isTold 4 (some .boolean), Cond.methodLink RX6 49 yX6_tellsPiece, Cond.instanceMethod yX6_tellsPiece, Cond.selects RX6 yX6_tellsPiece yX6_tellsPiece, Cond.code yX6_tellsPiece cX6_tellsPiece 4 none, Cond.fieldLink RX6 34 "SpeaksForTheChairModel" "readPiece" "[I", Cond.fieldLink RX6 37 "SpeaksForTheChairModel" "readRoom" "[I", Cond.methodLink RX6 107 yX6_readDeedOf, Cond.instanceMethod yX6_readDeedOf, Cond.selects RX6 yX6_readDeedOf yX6_readDeedOf]
def wsX6_fault_r3 : List Cond := [Cond.code yX6_readDeedOf cX6_readDeedOf 1 (some .boolean), Cond.methodLink RX6 53 yX6_tellsDeed, Cond.instanceMethod yX6_tellsDeed, Cond.selects RX6 yX6_tellsDeed yX6_tellsDeed, Cond.code yX6_tellsDeed cX6_tellsDeed 5 none, Cond.fieldLink RX6 40 "SpeaksForTheChairModel" "readDeed" "[I", Cond.methodLink RX6 110 yX6_readCoinsOf, Cond.instanceMethod yX6_readCoinsOf, Cond.selects RX6 yX6_readCoinsOf yX6_readCoinsOf, Cond.code yX6_readCoinsOf cX6_readCoinsOf 2 (some .boolean), Cond.methodLink RX6 113 yX6_readLawOf, Cond.instanceMethod yX6_readLawOf, Cond.selects RX6 yX6_readLawOf yX6_readLawOf, Cond.code yX6_readLawOf cX6_readLawOf 1 (some .boolean)]
def wsX6_fault : List Cond := .code yX6_fault cX6_fault 2 (some .int) :: ((wsX6_fault_r1 ++ (wsX6_fault_r2 ++ wsX6_fault_r3)) ++ wsX60)
def wsX6_lay_r1 : List Cond := [Cond.fieldLink RX6 67 "SpeaksForTheChairModel" "readPieces" "I", Cond.fieldLink RX6 73 "SpeaksForTheChairModel" "pieces" "I", Cond.methodLink RX6 119 yX6_fault, Cond.instanceMethod yX6_fault, Cond.selects RX6 yX6_fault yX6_fault, Cond.initialized RX6, Cond.code yX6_fault cX6_fault 2 (some .int), Cond.fieldLink RX6 86 "SpeaksForTheChairModel" "at" "I", Cond.fieldLink RX6 83 "SpeaksForTheChairModel" "texted" "I", Cond.methodLink RX6 46 yX6_clearTold, Cond.instanceMethod yX6_clearTold, Cond.selects RX6 yX6_clearTold yX6_clearTold, Cond.code yX6_clearTold cX6_clearTold 1 none, Cond.fieldLink RX6 70 "SpeaksForTheChairModel" "readDeeds" "I", Cond.fieldLink RX6 57 "SpeaksForTheChairModel" "readCoins" "I", Cond.fieldLink RX6 61 "SpeaksForTheChairModel" "readLaw" "I", Cond.methodLink RX6 116 yX6_readItem, Cond.instanceMethod yX6_readItem, Cond.selects RX6 yX6_readItem yX6_readItem, Cond.code yX6_readItem cX6_readItem 2 (some .boolean), Cond.methodLink RX6 89 yX6_letterAt, Cond.instanceMethod yX6_letterAt, Cond.selects RX6 yX6_letterAt yX6_letterAt, Cond.code yX6_letterAt cX6_letterAt 2 (some .int)]
def wsX6_lay_r2 : List Cond := [Cond.fieldLink RX6 28 "SpeaksForTheChairModel" "text" "[I", Cond.methodLink RX6 103 yX6_readPieceOf, Cond.instanceMethod yX6_readPieceOf, Cond.selects RX6 yX6_readPieceOf yX6_readPieceOf, Cond.code yX6_readPieceOf cX6_readPieceOf 1 (some .boolean), Cond.fieldLink RX6 31 "SpeaksForTheChairModel" "told" "[I", Cond.methodLink RX6 97 yX6_readNumbers, Cond.instanceMethod yX6_readNumbers, Cond.selects RX6 yX6_readNumbers yX6_readNumbers, Cond.code yX6_readNumbers cX6_readNumbers 3 (some .boolean), Cond.methodLink RX6 93 yX6_isFigure, Cond.static yX6_isFigure, Cond.code yX6_isFigure cX6_isFigure 1 (some .boolean), Cond.methodLink RX6 76 yX6_in, Cond.static yX6_in, Cond.code yX6_in cX6_in 3 (some .boolean), Cond.methodLink RX6 100 yX6_isTold, Cond.instanceMethod yX6_isTold, Cond.selects RX6 yX6_isTold yX6_isTold, Cond.code yX6_isTold cX6_isTold 4 (some .boolean), Cond.methodLink RX6 49 yX6_tellsPiece, Cond.instanceMethod yX6_tellsPiece, Cond.selects RX6 yX6_tellsPiece yX6_tellsPiece, Cond.code yX6_tellsPiece cX6_tellsPiece 4 none]
def wsX6_lay_r3 : List Cond := [Cond.fieldLink RX6 34 "SpeaksForTheChairModel" "readPiece" "[I", Cond.fieldLink RX6 37 "SpeaksForTheChairModel" "readRoom" "[I", Cond.methodLink RX6 107 yX6_readDeedOf, Cond.instanceMethod yX6_readDeedOf, Cond.selects RX6 yX6_readDeedOf yX6_readDeedOf, Cond.code yX6_readDeedOf cX6_readDeedOf 1 (some .boolean), Cond.methodLink RX6 53 yX6_tellsDeed, Cond.instanceMethod yX6_tellsDeed, Cond.selects RX6 yX6_tellsDeed yX6_tellsDeed, Cond.code yX6_tellsDeed cX6_tellsDeed 5 none, Cond.fieldLink RX6 40 "SpeaksForTheChairModel" "readDeed" "[I", Cond.methodLink RX6 110 yX6_readCoinsOf, Cond.instanceMethod yX6_readCoinsOf, Cond.selects RX6 yX6_readCoinsOf yX6_readCoinsOf, Cond.code yX6_readCoinsOf cX6_readCoinsOf 2 (some .boolean), Cond.methodLink RX6 113 yX6_readLawOf, Cond.instanceMethod yX6_readLawOf, Cond.selects RX6 yX6_readLawOf yX6_readLawOf, Cond.code yX6_readLawOf cX6_readLawOf 1 (some .boolean), Cond.methodLink RX6 64 yX6_settles, Cond.instanceMethod yX6_settles, Cond.selects RX6 yX6_settles yX6_settles, Cond.code yX6_settles cX6_settles 2 none, Cond.fieldLink RX6 7 "SpeaksForTheChairModel" "piece" "[I"]
def wsX6_lay_r4 : List Cond := [Cond.fieldLink RX6 80 "SpeaksForTheChairModel" "deeds" "I", Cond.fieldLink RX6 13 "SpeaksForTheChairModel" "deed" "[I", Cond.fieldLink RX6 127 "SpeaksForTheChairModel" "law" "I", Cond.fieldLink RX6 16 "SpeaksForTheChairModel" "st" "[I", Cond.fieldLink RX6 130 "SpeaksForTheChairModel" "acts" "I", Cond.fieldLink RX6 133 "SpeaksForTheChairModel" "keeps" "I", Cond.fieldLink RX6 136 "SpeaksForTheChairModel" "seens" "I", Cond.methodLink RX6 123 yX6_copies, Cond.static yX6_copies, Cond.code yX6_copies cX6_copies 6 none]
def wsX6_lay : List Cond := .code yX6_lay cX6_lay 1 (some .int) :: ((wsX6_lay_r1 ++ (wsX6_lay_r2 ++ (wsX6_lay_r3 ++ wsX6_lay_r4))) ++ wsX60)
def wsX6_asItIs : List Cond := .code yX6_asItIs cX6_asItIs 1 none :: ([.fieldLink RX6 43 "SpeaksForTheChairModel" "now" "[I", .fieldLink RX6 16 "SpeaksForTheChairModel" "st" "[I", .methodLink RX6 123 yX6_copies, .static yX6_copies, .initialized RX6, .code yX6_copies cX6_copies 6 none] ++ wsX60)
def wsX6_roomOf : List Cond := .code yX6_roomOf cX6_roomOf 2 (some .int) :: ([.fieldLink RX6 13 "SpeaksForTheChairModel" "deed" "[I"] ++ wsX60)
def wsX6_hourOf : List Cond := .code yX6_hourOf cX6_hourOf 2 (some .int) :: ([.fieldLink RX6 13 "SpeaksForTheChairModel" "deed" "[I"] ++ wsX60)
def wsX6_weighs : List Cond := .code yX6_weighs cX6_weighs 2 (some .int) :: ([.fieldLink RX6 13 "SpeaksForTheChairModel" "deed" "[I"] ++ wsX60)
def wsX6_laterThan : List Cond := .code yX6_laterThan cX6_laterThan 6 (some .int) :: ([.methodLink RX6 139 yX6_hourOf, .instanceMethod yX6_hourOf, .selects RX6 yX6_hourOf yX6_hourOf, .initialized RX6, .code yX6_hourOf cX6_hourOf 2 (some .int), .fieldLink RX6 13 "SpeaksForTheChairModel" "deed" "[I", .methodLink RX6 142 yX6_roomOf, .instanceMethod yX6_roomOf, .selects RX6 yX6_roomOf yX6_roomOf, .code yX6_roomOf cX6_roomOf 2 (some .int)] ++ wsX60)
def wsX6_doesTell : List Cond := .code yX6_doesTell cX6_doesTell 4 (some .boolean) :: ([.fieldLink RX6 43 "SpeaksForTheChairModel" "now" "[I", .fieldLink RX6 7 "SpeaksForTheChairModel" "piece" "[I", .methodLink RX6 142 yX6_roomOf, .instanceMethod yX6_roomOf, .selects RX6 yX6_roomOf yX6_roomOf, .initialized RX6, .code yX6_roomOf cX6_roomOf 2 (some .int), .fieldLink RX6 13 "SpeaksForTheChairModel" "deed" "[I", .methodLink RX6 139 yX6_hourOf, .instanceMethod yX6_hourOf, .selects RX6 yX6_hourOf yX6_hourOf, .code yX6_hourOf cX6_hourOf 2 (some .int), .methodLink RX6 145 yX6_laterThan, .instanceMethod yX6_laterThan, .selects RX6 yX6_laterThan yX6_laterThan, .code yX6_laterThan cX6_laterThan 6 (some .int), .methodLink RX6 149 yX6_weighs, .instanceMethod yX6_weighs, .selects RX6 yX6_weighs yX6_weighs, .code yX6_weighs cX6_weighs 2 (some .int)] ++ wsX60)
def wsX6_toldBy_r1 : List Cond := [Cond.fieldLink RX6 80 "SpeaksForTheChairModel" "deeds" "I", Cond.methodLink RX6 152 yX6_doesTell, Cond.instanceMethod yX6_doesTell, Cond.selects RX6 yX6_doesTell yX6_doesTell, Cond.initialized RX6, Cond.code yX6_doesTell cX6_doesTell 4 (some .boolean), Cond.fieldLink RX6 43 "SpeaksForTheChairModel" "now" "[I", Cond.fieldLink RX6 7 "SpeaksForTheChairModel" "piece" "[I", Cond.methodLink RX6 142 yX6_roomOf, Cond.instanceMethod yX6_roomOf, Cond.selects RX6 yX6_roomOf yX6_roomOf, Cond.code yX6_roomOf cX6_roomOf 2 (some .int), Cond.fieldLink RX6 13 "SpeaksForTheChairModel" "deed" "[I", Cond.methodLink RX6 139 yX6_hourOf, Cond.instanceMethod yX6_hourOf, Cond.selects RX6 yX6_hourOf yX6_hourOf, Cond.code yX6_hourOf cX6_hourOf 2 (some .int), Cond.methodLink RX6 145 yX6_laterThan, Cond.instanceMethod yX6_laterThan, Cond.selects RX6 yX6_laterThan yX6_laterThan, Cond.code yX6_laterThan cX6_laterThan 6 (some .int), Cond.methodLink RX6 149 yX6_weighs, Cond.instanceMethod yX6_weighs, Cond.selects RX6 yX6_weighs yX6_weighs]
def wsX6_toldBy_r2 : List Cond := [Cond.code yX6_weighs cX6_weighs 2 (some .int)]
def wsX6_toldBy : List Cond := .code yX6_toldBy cX6_toldBy 4 (some .int) :: ((wsX6_toldBy_r1 ++ wsX6_toldBy_r2) ++ wsX60)
def wsX6_isLoose : List Cond := .code yX6_isLoose cX6_isLoose 2 (some .boolean) :: ([.fieldLink RX6 43 "SpeaksForTheChairModel" "now" "[I", .fieldLink RX6 127 "SpeaksForTheChairModel" "law" "I", .fieldLink RX6 7 "SpeaksForTheChairModel" "piece" "[I", .methodLink RX6 155 yX6_has, .static yX6_has, .initialized RX6, .code yX6_has cX6_has 2 (some .boolean)] ++ wsX60)
def wsX6_loose : List Cond := .code yX6_loose cX6_loose 3 (some .int) :: ([.fieldLink RX6 73 "SpeaksForTheChairModel" "pieces" "I", .methodLink RX6 159 yX6_isLoose, .instanceMethod yX6_isLoose, .selects RX6 yX6_isLoose yX6_isLoose, .initialized RX6, .code yX6_isLoose cX6_isLoose 2 (some .boolean), .fieldLink RX6 43 "SpeaksForTheChairModel" "now" "[I", .fieldLink RX6 127 "SpeaksForTheChairModel" "law" "I", .fieldLink RX6 7 "SpeaksForTheChairModel" "piece" "[I", .methodLink RX6 155 yX6_has, .static yX6_has, .code yX6_has cX6_has 2 (some .boolean)] ++ wsX60)
def wsX6_tellers_r1 : List Cond := [Cond.fieldLink RX6 73 "SpeaksForTheChairModel" "pieces" "I", Cond.fieldLink RX6 80 "SpeaksForTheChairModel" "deeds" "I", Cond.methodLink RX6 159 yX6_isLoose, Cond.instanceMethod yX6_isLoose, Cond.selects RX6 yX6_isLoose yX6_isLoose, Cond.initialized RX6, Cond.code yX6_isLoose cX6_isLoose 2 (some .boolean), Cond.fieldLink RX6 43 "SpeaksForTheChairModel" "now" "[I", Cond.fieldLink RX6 127 "SpeaksForTheChairModel" "law" "I", Cond.fieldLink RX6 7 "SpeaksForTheChairModel" "piece" "[I", Cond.methodLink RX6 155 yX6_has, Cond.static yX6_has, Cond.code yX6_has cX6_has 2 (some .boolean), Cond.methodLink RX6 152 yX6_doesTell, Cond.instanceMethod yX6_doesTell, Cond.selects RX6 yX6_doesTell yX6_doesTell, Cond.code yX6_doesTell cX6_doesTell 4 (some .boolean), Cond.methodLink RX6 142 yX6_roomOf, Cond.instanceMethod yX6_roomOf, Cond.selects RX6 yX6_roomOf yX6_roomOf, Cond.code yX6_roomOf cX6_roomOf 2 (some .int), Cond.fieldLink RX6 13 "SpeaksForTheChairModel" "deed" "[I", Cond.methodLink RX6 139 yX6_hourOf, Cond.instanceMethod yX6_hourOf]
def wsX6_tellers_r2 : List Cond := [Cond.selects RX6 yX6_hourOf yX6_hourOf, Cond.code yX6_hourOf cX6_hourOf 2 (some .int), Cond.methodLink RX6 145 yX6_laterThan, Cond.instanceMethod yX6_laterThan, Cond.selects RX6 yX6_laterThan yX6_laterThan, Cond.code yX6_laterThan cX6_laterThan 6 (some .int), Cond.methodLink RX6 149 yX6_weighs, Cond.instanceMethod yX6_weighs, Cond.selects RX6 yX6_weighs yX6_weighs, Cond.code yX6_weighs cX6_weighs 2 (some .int)]
def wsX6_tellers : List Cond := .code yX6_tellers cX6_tellers 4 (some .int) :: ((wsX6_tellers_r1 ++ wsX6_tellers_r2) ++ wsX60)
def wsX6_priceOf : List Cond := .code yX6_priceOf cX6_priceOf 4 (some .int) :: ([.fieldLink RX6 73 "SpeaksForTheChairModel" "pieces" "I", .fieldLink RX6 7 "SpeaksForTheChairModel" "piece" "[I", .methodLink RX6 155 yX6_has, .static yX6_has, .initialized RX6, .code yX6_has cX6_has 2 (some .boolean)] ++ wsX60)
def wsX6_allWeigh : List Cond := .code yX6_allWeigh cX6_allWeigh 4 (some .int) :: ([.fieldLink RX6 80 "SpeaksForTheChairModel" "deeds" "I", .methodLink RX6 155 yX6_has, .static yX6_has, .initialized RX6, .code yX6_has cX6_has 2 (some .boolean), .methodLink RX6 149 yX6_weighs, .instanceMethod yX6_weighs, .selects RX6 yX6_weighs yX6_weighs, .code yX6_weighs cX6_weighs 2 (some .int), .fieldLink RX6 13 "SpeaksForTheChairModel" "deed" "[I"] ++ wsX60)
def wsX6_toldByAll_r1 : List Cond := [Cond.fieldLink RX6 73 "SpeaksForTheChairModel" "pieces" "I", Cond.methodLink RX6 155 yX6_has, Cond.static yX6_has, Cond.initialized RX6, Cond.code yX6_has cX6_has 2 (some .boolean), Cond.methodLink RX6 162 yX6_toldBy, Cond.instanceMethod yX6_toldBy, Cond.selects RX6 yX6_toldBy yX6_toldBy, Cond.code yX6_toldBy cX6_toldBy 4 (some .int), Cond.fieldLink RX6 80 "SpeaksForTheChairModel" "deeds" "I", Cond.methodLink RX6 152 yX6_doesTell, Cond.instanceMethod yX6_doesTell, Cond.selects RX6 yX6_doesTell yX6_doesTell, Cond.code yX6_doesTell cX6_doesTell 4 (some .boolean), Cond.fieldLink RX6 43 "SpeaksForTheChairModel" "now" "[I", Cond.fieldLink RX6 7 "SpeaksForTheChairModel" "piece" "[I", Cond.methodLink RX6 142 yX6_roomOf, Cond.instanceMethod yX6_roomOf, Cond.selects RX6 yX6_roomOf yX6_roomOf, Cond.code yX6_roomOf cX6_roomOf 2 (some .int), Cond.fieldLink RX6 13 "SpeaksForTheChairModel" "deed" "[I", Cond.methodLink RX6 139 yX6_hourOf, Cond.instanceMethod yX6_hourOf, Cond.selects RX6 yX6_hourOf yX6_hourOf]
def wsX6_toldByAll_r2 : List Cond := [Cond.code yX6_hourOf cX6_hourOf 2 (some .int), Cond.methodLink RX6 145 yX6_laterThan, Cond.instanceMethod yX6_laterThan, Cond.selects RX6 yX6_laterThan yX6_laterThan, Cond.code yX6_laterThan cX6_laterThan 6 (some .int), Cond.methodLink RX6 149 yX6_weighs, Cond.instanceMethod yX6_weighs, Cond.selects RX6 yX6_weighs yX6_weighs, Cond.code yX6_weighs cX6_weighs 2 (some .int)]
def wsX6_toldByAll : List Cond := .code yX6_toldByAll cX6_toldByAll 4 (some .int) :: ((wsX6_toldByAll_r1 ++ wsX6_toldByAll_r2) ++ wsX60)
def wsX6_piece_r1 : List Cond := [Cond.fieldLink RX6 7 "SpeaksForTheChairModel" "piece" "[I", Cond.fieldLink RX6 16 "SpeaksForTheChairModel" "st" "[I", Cond.methodLink RX6 165 yX6_isPiece, Cond.instanceMethod yX6_isPiece, Cond.selects RX6 yX6_isPiece yX6_isPiece, Cond.initialized RX6, Cond.code yX6_isPiece cX6_isPiece 2 (some .boolean), Cond.fieldLink RX6 73 "SpeaksForTheChairModel" "pieces" "I", Cond.methodLink RX6 76 yX6_in, Cond.static yX6_in, Cond.code yX6_in cX6_in 3 (some .boolean), Cond.methodLink RX6 168 yX6_asItIs, Cond.instanceMethod yX6_asItIs, Cond.selects RX6 yX6_asItIs yX6_asItIs, Cond.code yX6_asItIs cX6_asItIs 1 none, Cond.fieldLink RX6 43 "SpeaksForTheChairModel" "now" "[I", Cond.methodLink RX6 123 yX6_copies, Cond.static yX6_copies, Cond.code yX6_copies cX6_copies 6 none, Cond.methodLink RX6 162 yX6_toldBy, Cond.instanceMethod yX6_toldBy, Cond.selects RX6 yX6_toldBy yX6_toldBy, Cond.code yX6_toldBy cX6_toldBy 4 (some .int), Cond.fieldLink RX6 80 "SpeaksForTheChairModel" "deeds" "I"]
def wsX6_piece_r2 : List Cond := [Cond.methodLink RX6 152 yX6_doesTell, Cond.instanceMethod yX6_doesTell, Cond.selects RX6 yX6_doesTell yX6_doesTell, Cond.code yX6_doesTell cX6_doesTell 4 (some .boolean), Cond.methodLink RX6 142 yX6_roomOf, Cond.instanceMethod yX6_roomOf, Cond.selects RX6 yX6_roomOf yX6_roomOf, Cond.code yX6_roomOf cX6_roomOf 2 (some .int), Cond.fieldLink RX6 13 "SpeaksForTheChairModel" "deed" "[I", Cond.methodLink RX6 139 yX6_hourOf, Cond.instanceMethod yX6_hourOf, Cond.selects RX6 yX6_hourOf yX6_hourOf, Cond.code yX6_hourOf cX6_hourOf 2 (some .int), Cond.methodLink RX6 145 yX6_laterThan, Cond.instanceMethod yX6_laterThan, Cond.selects RX6 yX6_laterThan yX6_laterThan, Cond.code yX6_laterThan cX6_laterThan 6 (some .int), Cond.methodLink RX6 149 yX6_weighs, Cond.instanceMethod yX6_weighs, Cond.selects RX6 yX6_weighs yX6_weighs, Cond.code yX6_weighs cX6_weighs 2 (some .int), Cond.methodLink RX6 159 yX6_isLoose, Cond.instanceMethod yX6_isLoose, Cond.selects RX6 yX6_isLoose yX6_isLoose]
def wsX6_piece_r3 : List Cond := [Cond.code yX6_isLoose cX6_isLoose 2 (some .boolean), Cond.fieldLink RX6 127 "SpeaksForTheChairModel" "law" "I", Cond.methodLink RX6 155 yX6_has, Cond.static yX6_has, Cond.code yX6_has cX6_has 2 (some .boolean)]
def wsX6_piece : List Cond := .code yX6_piece cX6_piece 3 (some .int) :: ((wsX6_piece_r1 ++ (wsX6_piece_r2 ++ wsX6_piece_r3)) ++ wsX60)
def wsX6_deed_r1 : List Cond := [Cond.fieldLink RX6 13 "SpeaksForTheChairModel" "deed" "[I", Cond.fieldLink RX6 16 "SpeaksForTheChairModel" "st" "[I", Cond.methodLink RX6 171 yX6_isDeed, Cond.instanceMethod yX6_isDeed, Cond.selects RX6 yX6_isDeed yX6_isDeed, Cond.initialized RX6, Cond.code yX6_isDeed cX6_isDeed 2 (some .boolean), Cond.fieldLink RX6 80 "SpeaksForTheChairModel" "deeds" "I", Cond.methodLink RX6 76 yX6_in, Cond.static yX6_in, Cond.code yX6_in cX6_in 3 (some .boolean), Cond.methodLink RX6 168 yX6_asItIs, Cond.instanceMethod yX6_asItIs, Cond.selects RX6 yX6_asItIs yX6_asItIs, Cond.code yX6_asItIs cX6_asItIs 1 none, Cond.fieldLink RX6 43 "SpeaksForTheChairModel" "now" "[I", Cond.methodLink RX6 123 yX6_copies, Cond.static yX6_copies, Cond.code yX6_copies cX6_copies 6 none, Cond.methodLink RX6 174 yX6_tellers, Cond.instanceMethod yX6_tellers, Cond.selects RX6 yX6_tellers yX6_tellers, Cond.code yX6_tellers cX6_tellers 4 (some .int), Cond.fieldLink RX6 73 "SpeaksForTheChairModel" "pieces" "I"]
def wsX6_deed_r2 : List Cond := [Cond.methodLink RX6 159 yX6_isLoose, Cond.instanceMethod yX6_isLoose, Cond.selects RX6 yX6_isLoose yX6_isLoose, Cond.code yX6_isLoose cX6_isLoose 2 (some .boolean), Cond.fieldLink RX6 127 "SpeaksForTheChairModel" "law" "I", Cond.fieldLink RX6 7 "SpeaksForTheChairModel" "piece" "[I", Cond.methodLink RX6 155 yX6_has, Cond.static yX6_has, Cond.code yX6_has cX6_has 2 (some .boolean), Cond.methodLink RX6 152 yX6_doesTell, Cond.instanceMethod yX6_doesTell, Cond.selects RX6 yX6_doesTell yX6_doesTell, Cond.code yX6_doesTell cX6_doesTell 4 (some .boolean), Cond.methodLink RX6 142 yX6_roomOf, Cond.instanceMethod yX6_roomOf, Cond.selects RX6 yX6_roomOf yX6_roomOf, Cond.code yX6_roomOf cX6_roomOf 2 (some .int), Cond.methodLink RX6 139 yX6_hourOf, Cond.instanceMethod yX6_hourOf, Cond.selects RX6 yX6_hourOf yX6_hourOf, Cond.code yX6_hourOf cX6_hourOf 2 (some .int), Cond.methodLink RX6 145 yX6_laterThan, Cond.instanceMethod yX6_laterThan, Cond.selects RX6 yX6_laterThan yX6_laterThan]
def wsX6_deed_r3 : List Cond := [Cond.code yX6_laterThan cX6_laterThan 6 (some .int), Cond.methodLink RX6 149 yX6_weighs, Cond.instanceMethod yX6_weighs, Cond.selects RX6 yX6_weighs yX6_weighs, Cond.code yX6_weighs cX6_weighs 2 (some .int)]
def wsX6_deed : List Cond := .code yX6_deed cX6_deed 3 (some .int) :: ((wsX6_deed_r1 ++ (wsX6_deed_r2 ++ wsX6_deed_r3)) ++ wsX60)
def wsX6_remembers : List Cond := .code yX6_remembers cX6_remembers 2 none :: ([.fieldLink RX6 130 "SpeaksForTheChairModel" "acts" "I", .fieldLink RX6 19 "SpeaksForTheChairModel" "was" "[I", .fieldLink RX6 16 "SpeaksForTheChairModel" "st" "[I", .methodLink RX6 123 yX6_copies, .static yX6_copies, .initialized RX6, .code yX6_copies cX6_copies 6 none] ++ wsX60)
def wsX6_speak_r1 : List Cond := [Cond.fieldLink RX6 16 "SpeaksForTheChairModel" "st" "[I", Cond.methodLink RX6 165 yX6_isPiece, Cond.instanceMethod yX6_isPiece, Cond.selects RX6 yX6_isPiece yX6_isPiece, Cond.initialized RX6, Cond.code yX6_isPiece cX6_isPiece 2 (some .boolean), Cond.fieldLink RX6 73 "SpeaksForTheChairModel" "pieces" "I", Cond.methodLink RX6 76 yX6_in, Cond.static yX6_in, Cond.code yX6_in cX6_in 3 (some .boolean), Cond.methodLink RX6 168 yX6_asItIs, Cond.instanceMethod yX6_asItIs, Cond.selects RX6 yX6_asItIs yX6_asItIs, Cond.code yX6_asItIs cX6_asItIs 1 none, Cond.fieldLink RX6 43 "SpeaksForTheChairModel" "now" "[I", Cond.methodLink RX6 123 yX6_copies, Cond.static yX6_copies, Cond.code yX6_copies cX6_copies 6 none, Cond.methodLink RX6 159 yX6_isLoose, Cond.instanceMethod yX6_isLoose, Cond.selects RX6 yX6_isLoose yX6_isLoose, Cond.code yX6_isLoose cX6_isLoose 2 (some .boolean), Cond.fieldLink RX6 127 "SpeaksForTheChairModel" "law" "I", Cond.fieldLink RX6 7 "SpeaksForTheChairModel" "piece" "[I"]
def wsX6_speak_r2 : List Cond := [Cond.methodLink RX6 155 yX6_has, Cond.static yX6_has, Cond.code yX6_has cX6_has 2 (some .boolean), Cond.methodLink RX6 177 yX6_remembers, Cond.instanceMethod yX6_remembers, Cond.selects RX6 yX6_remembers yX6_remembers, Cond.code yX6_remembers cX6_remembers 2 none, Cond.fieldLink RX6 130 "SpeaksForTheChairModel" "acts" "I", Cond.fieldLink RX6 19 "SpeaksForTheChairModel" "was" "[I", Cond.methodLink RX6 162 yX6_toldBy, Cond.instanceMethod yX6_toldBy, Cond.selects RX6 yX6_toldBy yX6_toldBy, Cond.code yX6_toldBy cX6_toldBy 4 (some .int), Cond.fieldLink RX6 80 "SpeaksForTheChairModel" "deeds" "I", Cond.methodLink RX6 152 yX6_doesTell, Cond.instanceMethod yX6_doesTell, Cond.selects RX6 yX6_doesTell yX6_doesTell, Cond.code yX6_doesTell cX6_doesTell 4 (some .boolean), Cond.methodLink RX6 142 yX6_roomOf, Cond.instanceMethod yX6_roomOf, Cond.selects RX6 yX6_roomOf yX6_roomOf, Cond.code yX6_roomOf cX6_roomOf 2 (some .int), Cond.fieldLink RX6 13 "SpeaksForTheChairModel" "deed" "[I", Cond.methodLink RX6 139 yX6_hourOf]
def wsX6_speak_r3 : List Cond := [Cond.instanceMethod yX6_hourOf, Cond.selects RX6 yX6_hourOf yX6_hourOf, Cond.code yX6_hourOf cX6_hourOf 2 (some .int), Cond.methodLink RX6 145 yX6_laterThan, Cond.instanceMethod yX6_laterThan, Cond.selects RX6 yX6_laterThan yX6_laterThan, Cond.code yX6_laterThan cX6_laterThan 6 (some .int), Cond.methodLink RX6 149 yX6_weighs, Cond.instanceMethod yX6_weighs, Cond.selects RX6 yX6_weighs yX6_weighs, Cond.code yX6_weighs cX6_weighs 2 (some .int), Cond.methodLink RX6 180 yX6_bits, Cond.static yX6_bits, Cond.code yX6_bits cX6_bits 3 (some .int)]
def wsX6_speak : List Cond := .code yX6_speak cX6_speak 3 (some .int) :: ((wsX6_speak_r1 ++ (wsX6_speak_r2 ++ wsX6_speak_r3)) ++ wsX60)
def wsX6_buy : List Cond := .code yX6_buy cX6_buy 2 (some .int) :: ([.fieldLink RX6 16 "SpeaksForTheChairModel" "st" "[I", .fieldLink RX6 7 "SpeaksForTheChairModel" "piece" "[I", .methodLink RX6 165 yX6_isPiece, .instanceMethod yX6_isPiece, .selects RX6 yX6_isPiece yX6_isPiece, .initialized RX6, .code yX6_isPiece cX6_isPiece 2 (some .boolean), .fieldLink RX6 73 "SpeaksForTheChairModel" "pieces" "I", .methodLink RX6 76 yX6_in, .static yX6_in, .code yX6_in cX6_in 3 (some .boolean), .methodLink RX6 177 yX6_remembers, .instanceMethod yX6_remembers, .selects RX6 yX6_remembers yX6_remembers, .code yX6_remembers cX6_remembers 2 none, .fieldLink RX6 130 "SpeaksForTheChairModel" "acts" "I", .fieldLink RX6 19 "SpeaksForTheChairModel" "was" "[I", .methodLink RX6 123 yX6_copies, .static yX6_copies, .code yX6_copies cX6_copies 6 none] ++ wsX60)
def wsX6_carry : List Cond := .code yX6_carry cX6_carry 4 (some .int) :: ([.fieldLink RX6 16 "SpeaksForTheChairModel" "st" "[I", .methodLink RX6 165 yX6_isPiece, .instanceMethod yX6_isPiece, .selects RX6 yX6_isPiece yX6_isPiece, .initialized RX6, .code yX6_isPiece cX6_isPiece 2 (some .boolean), .fieldLink RX6 73 "SpeaksForTheChairModel" "pieces" "I", .methodLink RX6 76 yX6_in, .static yX6_in, .code yX6_in cX6_in 3 (some .boolean), .methodLink RX6 177 yX6_remembers, .instanceMethod yX6_remembers, .selects RX6 yX6_remembers yX6_remembers, .code yX6_remembers cX6_remembers 2 none, .fieldLink RX6 130 "SpeaksForTheChairModel" "acts" "I", .fieldLink RX6 19 "SpeaksForTheChairModel" "was" "[I", .methodLink RX6 123 yX6_copies, .static yX6_copies, .code yX6_copies cX6_copies 6 none] ++ wsX60)
def wsX6_undo : List Cond := .code yX6_undo cX6_undo 1 (some .int) :: ([.fieldLink RX6 130 "SpeaksForTheChairModel" "acts" "I", .fieldLink RX6 16 "SpeaksForTheChairModel" "st" "[I", .fieldLink RX6 19 "SpeaksForTheChairModel" "was" "[I", .methodLink RX6 123 yX6_copies, .static yX6_copies, .initialized RX6, .code yX6_copies cX6_copies 6 none] ++ wsX60)
def wsX6_hushes_r1 : List Cond := [Cond.fieldLink RX6 73 "SpeaksForTheChairModel" "pieces" "I", Cond.methodLink RX6 183 yX6_loose, Cond.instanceMethod yX6_loose, Cond.selects RX6 yX6_loose yX6_loose, Cond.initialized RX6, Cond.code yX6_loose cX6_loose 3 (some .int), Cond.methodLink RX6 159 yX6_isLoose, Cond.instanceMethod yX6_isLoose, Cond.selects RX6 yX6_isLoose yX6_isLoose, Cond.code yX6_isLoose cX6_isLoose 2 (some .boolean), Cond.fieldLink RX6 43 "SpeaksForTheChairModel" "now" "[I", Cond.fieldLink RX6 127 "SpeaksForTheChairModel" "law" "I", Cond.fieldLink RX6 7 "SpeaksForTheChairModel" "piece" "[I", Cond.methodLink RX6 155 yX6_has, Cond.static yX6_has, Cond.code yX6_has cX6_has 2 (some .boolean), Cond.methodLink RX6 186 yX6_toldByAll, Cond.instanceMethod yX6_toldByAll, Cond.selects RX6 yX6_toldByAll yX6_toldByAll, Cond.code yX6_toldByAll cX6_toldByAll 4 (some .int), Cond.methodLink RX6 162 yX6_toldBy, Cond.instanceMethod yX6_toldBy, Cond.selects RX6 yX6_toldBy yX6_toldBy, Cond.code yX6_toldBy cX6_toldBy 4 (some .int)]
def wsX6_hushes_r2 : List Cond := [Cond.fieldLink RX6 80 "SpeaksForTheChairModel" "deeds" "I", Cond.methodLink RX6 152 yX6_doesTell, Cond.instanceMethod yX6_doesTell, Cond.selects RX6 yX6_doesTell yX6_doesTell, Cond.code yX6_doesTell cX6_doesTell 4 (some .boolean), Cond.methodLink RX6 142 yX6_roomOf, Cond.instanceMethod yX6_roomOf, Cond.selects RX6 yX6_roomOf yX6_roomOf, Cond.code yX6_roomOf cX6_roomOf 2 (some .int), Cond.fieldLink RX6 13 "SpeaksForTheChairModel" "deed" "[I", Cond.methodLink RX6 139 yX6_hourOf, Cond.instanceMethod yX6_hourOf, Cond.selects RX6 yX6_hourOf yX6_hourOf, Cond.code yX6_hourOf cX6_hourOf 2 (some .int), Cond.methodLink RX6 145 yX6_laterThan, Cond.instanceMethod yX6_laterThan, Cond.selects RX6 yX6_laterThan yX6_laterThan, Cond.code yX6_laterThan cX6_laterThan 6 (some .int), Cond.methodLink RX6 149 yX6_weighs, Cond.instanceMethod yX6_weighs, Cond.selects RX6 yX6_weighs yX6_weighs, Cond.code yX6_weighs cX6_weighs 2 (some .int), Cond.methodLink RX6 189 yX6_priceOf, Cond.instanceMethod yX6_priceOf]
def wsX6_hushes_r3 : List Cond := [Cond.selects RX6 yX6_priceOf yX6_priceOf, Cond.code yX6_priceOf cX6_priceOf 4 (some .int)]
def wsX6_hushes : List Cond := .code yX6_hushes cX6_hushes 9 (some .int) :: ((wsX6_hushes_r1 ++ (wsX6_hushes_r2 ++ wsX6_hushes_r3)) ++ wsX60)
def wsX6_hush_r1 : List Cond := [Cond.fieldLink RX6 16 "SpeaksForTheChairModel" "st" "[I", Cond.methodLink RX6 171 yX6_isDeed, Cond.instanceMethod yX6_isDeed, Cond.selects RX6 yX6_isDeed yX6_isDeed, Cond.initialized RX6, Cond.code yX6_isDeed cX6_isDeed 2 (some .boolean), Cond.fieldLink RX6 80 "SpeaksForTheChairModel" "deeds" "I", Cond.methodLink RX6 76 yX6_in, Cond.static yX6_in, Cond.code yX6_in cX6_in 3 (some .boolean), Cond.methodLink RX6 168 yX6_asItIs, Cond.instanceMethod yX6_asItIs, Cond.selects RX6 yX6_asItIs yX6_asItIs, Cond.code yX6_asItIs cX6_asItIs 1 none, Cond.fieldLink RX6 43 "SpeaksForTheChairModel" "now" "[I", Cond.methodLink RX6 123 yX6_copies, Cond.static yX6_copies, Cond.code yX6_copies cX6_copies 6 none, Cond.methodLink RX6 155 yX6_has, Cond.static yX6_has, Cond.code yX6_has cX6_has 2 (some .boolean), Cond.methodLink RX6 192 yX6_hushes, Cond.instanceMethod yX6_hushes, Cond.selects RX6 yX6_hushes yX6_hushes]
def wsX6_hush_r2 : List Cond := [Cond.code yX6_hushes cX6_hushes 9 (some .int), Cond.fieldLink RX6 73 "SpeaksForTheChairModel" "pieces" "I", Cond.methodLink RX6 183 yX6_loose, Cond.instanceMethod yX6_loose, Cond.selects RX6 yX6_loose yX6_loose, Cond.code yX6_loose cX6_loose 3 (some .int), Cond.methodLink RX6 159 yX6_isLoose, Cond.instanceMethod yX6_isLoose, Cond.selects RX6 yX6_isLoose yX6_isLoose, Cond.code yX6_isLoose cX6_isLoose 2 (some .boolean), Cond.fieldLink RX6 127 "SpeaksForTheChairModel" "law" "I", Cond.fieldLink RX6 7 "SpeaksForTheChairModel" "piece" "[I", Cond.methodLink RX6 186 yX6_toldByAll, Cond.instanceMethod yX6_toldByAll, Cond.selects RX6 yX6_toldByAll yX6_toldByAll, Cond.code yX6_toldByAll cX6_toldByAll 4 (some .int), Cond.methodLink RX6 162 yX6_toldBy, Cond.instanceMethod yX6_toldBy, Cond.selects RX6 yX6_toldBy yX6_toldBy, Cond.code yX6_toldBy cX6_toldBy 4 (some .int), Cond.methodLink RX6 152 yX6_doesTell, Cond.instanceMethod yX6_doesTell, Cond.selects RX6 yX6_doesTell yX6_doesTell, Cond.code yX6_doesTell cX6_doesTell 4 (some .boolean)]
def wsX6_hush_r3 : List Cond := [Cond.methodLink RX6 142 yX6_roomOf, Cond.instanceMethod yX6_roomOf, Cond.selects RX6 yX6_roomOf yX6_roomOf, Cond.code yX6_roomOf cX6_roomOf 2 (some .int), Cond.fieldLink RX6 13 "SpeaksForTheChairModel" "deed" "[I", Cond.methodLink RX6 139 yX6_hourOf, Cond.instanceMethod yX6_hourOf, Cond.selects RX6 yX6_hourOf yX6_hourOf, Cond.code yX6_hourOf cX6_hourOf 2 (some .int), Cond.methodLink RX6 145 yX6_laterThan, Cond.instanceMethod yX6_laterThan, Cond.selects RX6 yX6_laterThan yX6_laterThan, Cond.code yX6_laterThan cX6_laterThan 6 (some .int), Cond.methodLink RX6 149 yX6_weighs, Cond.instanceMethod yX6_weighs, Cond.selects RX6 yX6_weighs yX6_weighs, Cond.code yX6_weighs cX6_weighs 2 (some .int), Cond.methodLink RX6 189 yX6_priceOf, Cond.instanceMethod yX6_priceOf, Cond.selects RX6 yX6_priceOf yX6_priceOf, Cond.code yX6_priceOf cX6_priceOf 4 (some .int)]
def wsX6_hush : List Cond := .code yX6_hush cX6_hush 3 (some .int) :: ((wsX6_hush_r1 ++ (wsX6_hush_r2 ++ wsX6_hush_r3)) ++ wsX60)
def wsX6_hushAll_r1 : List Cond := [Cond.fieldLink RX6 80 "SpeaksForTheChairModel" "deeds" "I", Cond.fieldLink RX6 16 "SpeaksForTheChairModel" "st" "[I", Cond.methodLink RX6 76 yX6_in, Cond.static yX6_in, Cond.initialized RX6, Cond.code yX6_in cX6_in 3 (some .boolean), Cond.methodLink RX6 168 yX6_asItIs, Cond.instanceMethod yX6_asItIs, Cond.selects RX6 yX6_asItIs yX6_asItIs, Cond.code yX6_asItIs cX6_asItIs 1 none, Cond.fieldLink RX6 43 "SpeaksForTheChairModel" "now" "[I", Cond.methodLink RX6 123 yX6_copies, Cond.static yX6_copies, Cond.code yX6_copies cX6_copies 6 none, Cond.methodLink RX6 149 yX6_weighs, Cond.instanceMethod yX6_weighs, Cond.selects RX6 yX6_weighs yX6_weighs, Cond.code yX6_weighs cX6_weighs 2 (some .int), Cond.fieldLink RX6 13 "SpeaksForTheChairModel" "deed" "[I", Cond.methodLink RX6 155 yX6_has, Cond.static yX6_has, Cond.code yX6_has cX6_has 2 (some .boolean), Cond.methodLink RX6 192 yX6_hushes, Cond.instanceMethod yX6_hushes]
def wsX6_hushAll_r2 : List Cond := [Cond.selects RX6 yX6_hushes yX6_hushes, Cond.code yX6_hushes cX6_hushes 9 (some .int), Cond.fieldLink RX6 73 "SpeaksForTheChairModel" "pieces" "I", Cond.methodLink RX6 183 yX6_loose, Cond.instanceMethod yX6_loose, Cond.selects RX6 yX6_loose yX6_loose, Cond.code yX6_loose cX6_loose 3 (some .int), Cond.methodLink RX6 159 yX6_isLoose, Cond.instanceMethod yX6_isLoose, Cond.selects RX6 yX6_isLoose yX6_isLoose, Cond.code yX6_isLoose cX6_isLoose 2 (some .boolean), Cond.fieldLink RX6 127 "SpeaksForTheChairModel" "law" "I", Cond.fieldLink RX6 7 "SpeaksForTheChairModel" "piece" "[I", Cond.methodLink RX6 186 yX6_toldByAll, Cond.instanceMethod yX6_toldByAll, Cond.selects RX6 yX6_toldByAll yX6_toldByAll, Cond.code yX6_toldByAll cX6_toldByAll 4 (some .int), Cond.methodLink RX6 162 yX6_toldBy, Cond.instanceMethod yX6_toldBy, Cond.selects RX6 yX6_toldBy yX6_toldBy, Cond.code yX6_toldBy cX6_toldBy 4 (some .int), Cond.methodLink RX6 152 yX6_doesTell, Cond.instanceMethod yX6_doesTell, Cond.selects RX6 yX6_doesTell yX6_doesTell]
def wsX6_hushAll_r3 : List Cond := [Cond.code yX6_doesTell cX6_doesTell 4 (some .boolean), Cond.methodLink RX6 142 yX6_roomOf, Cond.instanceMethod yX6_roomOf, Cond.selects RX6 yX6_roomOf yX6_roomOf, Cond.code yX6_roomOf cX6_roomOf 2 (some .int), Cond.methodLink RX6 139 yX6_hourOf, Cond.instanceMethod yX6_hourOf, Cond.selects RX6 yX6_hourOf yX6_hourOf, Cond.code yX6_hourOf cX6_hourOf 2 (some .int), Cond.methodLink RX6 145 yX6_laterThan, Cond.instanceMethod yX6_laterThan, Cond.selects RX6 yX6_laterThan yX6_laterThan, Cond.code yX6_laterThan cX6_laterThan 6 (some .int), Cond.methodLink RX6 189 yX6_priceOf, Cond.instanceMethod yX6_priceOf, Cond.selects RX6 yX6_priceOf yX6_priceOf, Cond.code yX6_priceOf cX6_priceOf 4 (some .int)]
def wsX6_hushAll : List Cond := .code yX6_hushAll cX6_hushAll 5 (some .int) :: ((wsX6_hushAll_r1 ++ (wsX6_hushAll_r2 ++ wsX6_hushAll_r3)) ++ wsX60)
def wsX6_hushOne_r1 : List Cond := [Cond.fieldLink RX6 80 "SpeaksForTheChairModel" "deeds" "I", Cond.fieldLink RX6 13 "SpeaksForTheChairModel" "deed" "[I", Cond.fieldLink RX6 16 "SpeaksForTheChairModel" "st" "[I", Cond.methodLink RX6 76 yX6_in, Cond.static yX6_in, Cond.initialized RX6, Cond.code yX6_in cX6_in 3 (some .boolean), Cond.methodLink RX6 168 yX6_asItIs, Cond.instanceMethod yX6_asItIs, Cond.selects RX6 yX6_asItIs yX6_asItIs, Cond.code yX6_asItIs cX6_asItIs 1 none, Cond.fieldLink RX6 43 "SpeaksForTheChairModel" "now" "[I", Cond.methodLink RX6 123 yX6_copies, Cond.static yX6_copies, Cond.code yX6_copies cX6_copies 6 none, Cond.methodLink RX6 155 yX6_has, Cond.static yX6_has, Cond.code yX6_has cX6_has 2 (some .boolean), Cond.methodLink RX6 192 yX6_hushes, Cond.instanceMethod yX6_hushes, Cond.selects RX6 yX6_hushes yX6_hushes, Cond.code yX6_hushes cX6_hushes 9 (some .int), Cond.fieldLink RX6 73 "SpeaksForTheChairModel" "pieces" "I", Cond.methodLink RX6 183 yX6_loose]
def wsX6_hushOne_r2 : List Cond := [Cond.instanceMethod yX6_loose, Cond.selects RX6 yX6_loose yX6_loose, Cond.code yX6_loose cX6_loose 3 (some .int), Cond.methodLink RX6 159 yX6_isLoose, Cond.instanceMethod yX6_isLoose, Cond.selects RX6 yX6_isLoose yX6_isLoose, Cond.code yX6_isLoose cX6_isLoose 2 (some .boolean), Cond.fieldLink RX6 127 "SpeaksForTheChairModel" "law" "I", Cond.fieldLink RX6 7 "SpeaksForTheChairModel" "piece" "[I", Cond.methodLink RX6 186 yX6_toldByAll, Cond.instanceMethod yX6_toldByAll, Cond.selects RX6 yX6_toldByAll yX6_toldByAll, Cond.code yX6_toldByAll cX6_toldByAll 4 (some .int), Cond.methodLink RX6 162 yX6_toldBy, Cond.instanceMethod yX6_toldBy, Cond.selects RX6 yX6_toldBy yX6_toldBy, Cond.code yX6_toldBy cX6_toldBy 4 (some .int), Cond.methodLink RX6 152 yX6_doesTell, Cond.instanceMethod yX6_doesTell, Cond.selects RX6 yX6_doesTell yX6_doesTell, Cond.code yX6_doesTell cX6_doesTell 4 (some .boolean), Cond.methodLink RX6 142 yX6_roomOf, Cond.instanceMethod yX6_roomOf, Cond.selects RX6 yX6_roomOf yX6_roomOf]
def wsX6_hushOne_r3 : List Cond := [Cond.code yX6_roomOf cX6_roomOf 2 (some .int), Cond.methodLink RX6 139 yX6_hourOf, Cond.instanceMethod yX6_hourOf, Cond.selects RX6 yX6_hourOf yX6_hourOf, Cond.code yX6_hourOf cX6_hourOf 2 (some .int), Cond.methodLink RX6 145 yX6_laterThan, Cond.instanceMethod yX6_laterThan, Cond.selects RX6 yX6_laterThan yX6_laterThan, Cond.code yX6_laterThan cX6_laterThan 6 (some .int), Cond.methodLink RX6 149 yX6_weighs, Cond.instanceMethod yX6_weighs, Cond.selects RX6 yX6_weighs yX6_weighs, Cond.code yX6_weighs cX6_weighs 2 (some .int), Cond.methodLink RX6 189 yX6_priceOf, Cond.instanceMethod yX6_priceOf, Cond.selects RX6 yX6_priceOf yX6_priceOf, Cond.code yX6_priceOf cX6_priceOf 4 (some .int)]
def wsX6_hushOne : List Cond := .code yX6_hushOne cX6_hushOne 5 (some .int) :: ((wsX6_hushOne_r1 ++ (wsX6_hushOne_r2 ++ wsX6_hushOne_r3)) ++ wsX60)
def wsX6_save_r1 : List Cond := [Cond.fieldLink RX6 73 "SpeaksForTheChairModel" "pieces" "I", Cond.fieldLink RX6 16 "SpeaksForTheChairModel" "st" "[I", Cond.methodLink RX6 76 yX6_in, Cond.static yX6_in, Cond.initialized RX6, Cond.code yX6_in cX6_in 3 (some .boolean), Cond.methodLink RX6 168 yX6_asItIs, Cond.instanceMethod yX6_asItIs, Cond.selects RX6 yX6_asItIs yX6_asItIs, Cond.code yX6_asItIs cX6_asItIs 1 none, Cond.fieldLink RX6 43 "SpeaksForTheChairModel" "now" "[I", Cond.methodLink RX6 123 yX6_copies, Cond.static yX6_copies, Cond.code yX6_copies cX6_copies 6 none, Cond.methodLink RX6 183 yX6_loose, Cond.instanceMethod yX6_loose, Cond.selects RX6 yX6_loose yX6_loose, Cond.code yX6_loose cX6_loose 3 (some .int), Cond.methodLink RX6 159 yX6_isLoose, Cond.instanceMethod yX6_isLoose, Cond.selects RX6 yX6_isLoose yX6_isLoose, Cond.code yX6_isLoose cX6_isLoose 2 (some .boolean), Cond.fieldLink RX6 127 "SpeaksForTheChairModel" "law" "I", Cond.fieldLink RX6 7 "SpeaksForTheChairModel" "piece" "[I"]
def wsX6_save_r2 : List Cond := [Cond.methodLink RX6 155 yX6_has, Cond.static yX6_has, Cond.code yX6_has cX6_has 2 (some .boolean), Cond.methodLink RX6 189 yX6_priceOf, Cond.instanceMethod yX6_priceOf, Cond.selects RX6 yX6_priceOf yX6_priceOf, Cond.code yX6_priceOf cX6_priceOf 4 (some .int), Cond.methodLink RX6 186 yX6_toldByAll, Cond.instanceMethod yX6_toldByAll, Cond.selects RX6 yX6_toldByAll yX6_toldByAll, Cond.code yX6_toldByAll cX6_toldByAll 4 (some .int), Cond.methodLink RX6 162 yX6_toldBy, Cond.instanceMethod yX6_toldBy, Cond.selects RX6 yX6_toldBy yX6_toldBy, Cond.code yX6_toldBy cX6_toldBy 4 (some .int), Cond.fieldLink RX6 80 "SpeaksForTheChairModel" "deeds" "I", Cond.methodLink RX6 152 yX6_doesTell, Cond.instanceMethod yX6_doesTell, Cond.selects RX6 yX6_doesTell yX6_doesTell, Cond.code yX6_doesTell cX6_doesTell 4 (some .boolean), Cond.methodLink RX6 142 yX6_roomOf, Cond.instanceMethod yX6_roomOf, Cond.selects RX6 yX6_roomOf yX6_roomOf, Cond.code yX6_roomOf cX6_roomOf 2 (some .int)]
def wsX6_save_r3 : List Cond := [Cond.fieldLink RX6 13 "SpeaksForTheChairModel" "deed" "[I", Cond.methodLink RX6 139 yX6_hourOf, Cond.instanceMethod yX6_hourOf, Cond.selects RX6 yX6_hourOf yX6_hourOf, Cond.code yX6_hourOf cX6_hourOf 2 (some .int), Cond.methodLink RX6 145 yX6_laterThan, Cond.instanceMethod yX6_laterThan, Cond.selects RX6 yX6_laterThan yX6_laterThan, Cond.code yX6_laterThan cX6_laterThan 6 (some .int), Cond.methodLink RX6 149 yX6_weighs, Cond.instanceMethod yX6_weighs, Cond.selects RX6 yX6_weighs yX6_weighs, Cond.code yX6_weighs cX6_weighs 2 (some .int), Cond.methodLink RX6 195 yX6_allWeigh, Cond.instanceMethod yX6_allWeigh, Cond.selects RX6 yX6_allWeigh yX6_allWeigh, Cond.code yX6_allWeigh cX6_allWeigh 4 (some .int)]
def wsX6_save : List Cond := .code yX6_save cX6_save 7 (some .int) :: ((wsX6_save_r1 ++ (wsX6_save_r2 ++ wsX6_save_r3)) ++ wsX60)
def wsX6_together_r1 : List Cond := [Cond.methodLink RX6 165 yX6_isPiece, Cond.instanceMethod yX6_isPiece, Cond.selects RX6 yX6_isPiece yX6_isPiece, Cond.initialized RX6, Cond.code yX6_isPiece cX6_isPiece 2 (some .boolean), Cond.fieldLink RX6 73 "SpeaksForTheChairModel" "pieces" "I", Cond.methodLink RX6 76 yX6_in, Cond.static yX6_in, Cond.code yX6_in cX6_in 3 (some .boolean), Cond.methodLink RX6 168 yX6_asItIs, Cond.instanceMethod yX6_asItIs, Cond.selects RX6 yX6_asItIs yX6_asItIs, Cond.code yX6_asItIs cX6_asItIs 1 none, Cond.fieldLink RX6 43 "SpeaksForTheChairModel" "now" "[I", Cond.fieldLink RX6 16 "SpeaksForTheChairModel" "st" "[I", Cond.methodLink RX6 123 yX6_copies, Cond.static yX6_copies, Cond.code yX6_copies cX6_copies 6 none, Cond.methodLink RX6 162 yX6_toldBy, Cond.instanceMethod yX6_toldBy, Cond.selects RX6 yX6_toldBy yX6_toldBy, Cond.code yX6_toldBy cX6_toldBy 4 (some .int), Cond.fieldLink RX6 80 "SpeaksForTheChairModel" "deeds" "I", Cond.methodLink RX6 152 yX6_doesTell]
def wsX6_together_r2 : List Cond := [Cond.instanceMethod yX6_doesTell, Cond.selects RX6 yX6_doesTell yX6_doesTell, Cond.code yX6_doesTell cX6_doesTell 4 (some .boolean), Cond.fieldLink RX6 7 "SpeaksForTheChairModel" "piece" "[I", Cond.methodLink RX6 142 yX6_roomOf, Cond.instanceMethod yX6_roomOf, Cond.selects RX6 yX6_roomOf yX6_roomOf, Cond.code yX6_roomOf cX6_roomOf 2 (some .int), Cond.fieldLink RX6 13 "SpeaksForTheChairModel" "deed" "[I", Cond.methodLink RX6 139 yX6_hourOf, Cond.instanceMethod yX6_hourOf, Cond.selects RX6 yX6_hourOf yX6_hourOf, Cond.code yX6_hourOf cX6_hourOf 2 (some .int), Cond.methodLink RX6 145 yX6_laterThan, Cond.instanceMethod yX6_laterThan, Cond.selects RX6 yX6_laterThan yX6_laterThan, Cond.code yX6_laterThan cX6_laterThan 6 (some .int), Cond.methodLink RX6 149 yX6_weighs, Cond.instanceMethod yX6_weighs, Cond.selects RX6 yX6_weighs yX6_weighs, Cond.code yX6_weighs cX6_weighs 2 (some .int)]
def wsX6_together : List Cond := .code yX6_together cX6_together 3 (some .int) :: ((wsX6_together_r1 ++ wsX6_together_r2) ++ wsX60)
def wsX6_cover_r1 : List Cond := [Cond.fieldLink RX6 73 "SpeaksForTheChairModel" "pieces" "I", Cond.methodLink RX6 76 yX6_in, Cond.static yX6_in, Cond.initialized RX6, Cond.code yX6_in cX6_in 3 (some .boolean), Cond.methodLink RX6 168 yX6_asItIs, Cond.instanceMethod yX6_asItIs, Cond.selects RX6 yX6_asItIs yX6_asItIs, Cond.code yX6_asItIs cX6_asItIs 1 none, Cond.fieldLink RX6 43 "SpeaksForTheChairModel" "now" "[I", Cond.fieldLink RX6 16 "SpeaksForTheChairModel" "st" "[I", Cond.methodLink RX6 123 yX6_copies, Cond.static yX6_copies, Cond.code yX6_copies cX6_copies 6 none, Cond.methodLink RX6 183 yX6_loose, Cond.instanceMethod yX6_loose, Cond.selects RX6 yX6_loose yX6_loose, Cond.code yX6_loose cX6_loose 3 (some .int), Cond.methodLink RX6 159 yX6_isLoose, Cond.instanceMethod yX6_isLoose, Cond.selects RX6 yX6_isLoose yX6_isLoose, Cond.code yX6_isLoose cX6_isLoose 2 (some .boolean), Cond.fieldLink RX6 127 "SpeaksForTheChairModel" "law" "I", Cond.fieldLink RX6 7 "SpeaksForTheChairModel" "piece" "[I"]
def wsX6_cover_r2 : List Cond := [Cond.methodLink RX6 155 yX6_has, Cond.static yX6_has, Cond.code yX6_has cX6_has 2 (some .boolean), Cond.methodLink RX6 186 yX6_toldByAll, Cond.instanceMethod yX6_toldByAll, Cond.selects RX6 yX6_toldByAll yX6_toldByAll, Cond.code yX6_toldByAll cX6_toldByAll 4 (some .int), Cond.methodLink RX6 162 yX6_toldBy, Cond.instanceMethod yX6_toldBy, Cond.selects RX6 yX6_toldBy yX6_toldBy, Cond.code yX6_toldBy cX6_toldBy 4 (some .int), Cond.fieldLink RX6 80 "SpeaksForTheChairModel" "deeds" "I", Cond.methodLink RX6 152 yX6_doesTell, Cond.instanceMethod yX6_doesTell, Cond.selects RX6 yX6_doesTell yX6_doesTell, Cond.code yX6_doesTell cX6_doesTell 4 (some .boolean), Cond.methodLink RX6 142 yX6_roomOf, Cond.instanceMethod yX6_roomOf, Cond.selects RX6 yX6_roomOf yX6_roomOf, Cond.code yX6_roomOf cX6_roomOf 2 (some .int), Cond.fieldLink RX6 13 "SpeaksForTheChairModel" "deed" "[I", Cond.methodLink RX6 139 yX6_hourOf, Cond.instanceMethod yX6_hourOf, Cond.selects RX6 yX6_hourOf yX6_hourOf]
def wsX6_cover_r3 : List Cond := [Cond.code yX6_hourOf cX6_hourOf 2 (some .int), Cond.methodLink RX6 145 yX6_laterThan, Cond.instanceMethod yX6_laterThan, Cond.selects RX6 yX6_laterThan yX6_laterThan, Cond.code yX6_laterThan cX6_laterThan 6 (some .int), Cond.methodLink RX6 149 yX6_weighs, Cond.instanceMethod yX6_weighs, Cond.selects RX6 yX6_weighs yX6_weighs, Cond.code yX6_weighs cX6_weighs 2 (some .int), Cond.methodLink RX6 180 yX6_bits, Cond.static yX6_bits, Cond.code yX6_bits cX6_bits 3 (some .int)]
def wsX6_cover : List Cond := .code yX6_cover cX6_cover 6 (some .int) :: ((wsX6_cover_r1 ++ (wsX6_cover_r2 ++ wsX6_cover_r3)) ++ wsX60)
def wsX6_safe_r1 : List Cond := [Cond.fieldLink RX6 13 "SpeaksForTheChairModel" "deed" "[I", Cond.fieldLink RX6 80 "SpeaksForTheChairModel" "deeds" "I", Cond.fieldLink RX6 73 "SpeaksForTheChairModel" "pieces" "I", Cond.methodLink RX6 76 yX6_in, Cond.static yX6_in, Cond.initialized RX6, Cond.code yX6_in cX6_in 3 (some .boolean), Cond.methodLink RX6 168 yX6_asItIs, Cond.instanceMethod yX6_asItIs, Cond.selects RX6 yX6_asItIs yX6_asItIs, Cond.code yX6_asItIs cX6_asItIs 1 none, Cond.fieldLink RX6 43 "SpeaksForTheChairModel" "now" "[I", Cond.fieldLink RX6 16 "SpeaksForTheChairModel" "st" "[I", Cond.methodLink RX6 123 yX6_copies, Cond.static yX6_copies, Cond.code yX6_copies cX6_copies 6 none, Cond.methodLink RX6 159 yX6_isLoose, Cond.instanceMethod yX6_isLoose, Cond.selects RX6 yX6_isLoose yX6_isLoose, Cond.code yX6_isLoose cX6_isLoose 2 (some .boolean), Cond.fieldLink RX6 127 "SpeaksForTheChairModel" "law" "I", Cond.fieldLink RX6 7 "SpeaksForTheChairModel" "piece" "[I", Cond.methodLink RX6 155 yX6_has, Cond.static yX6_has]
def wsX6_safe_r2 : List Cond := [Cond.code yX6_has cX6_has 2 (some .boolean), Cond.methodLink RX6 152 yX6_doesTell, Cond.instanceMethod yX6_doesTell, Cond.selects RX6 yX6_doesTell yX6_doesTell, Cond.code yX6_doesTell cX6_doesTell 4 (some .boolean), Cond.methodLink RX6 142 yX6_roomOf, Cond.instanceMethod yX6_roomOf, Cond.selects RX6 yX6_roomOf yX6_roomOf, Cond.code yX6_roomOf cX6_roomOf 2 (some .int), Cond.methodLink RX6 139 yX6_hourOf, Cond.instanceMethod yX6_hourOf, Cond.selects RX6 yX6_hourOf yX6_hourOf, Cond.code yX6_hourOf cX6_hourOf 2 (some .int), Cond.methodLink RX6 145 yX6_laterThan, Cond.instanceMethod yX6_laterThan, Cond.selects RX6 yX6_laterThan yX6_laterThan, Cond.code yX6_laterThan cX6_laterThan 6 (some .int), Cond.methodLink RX6 149 yX6_weighs, Cond.instanceMethod yX6_weighs, Cond.selects RX6 yX6_weighs yX6_weighs, Cond.code yX6_weighs cX6_weighs 2 (some .int)]
def wsX6_safe : List Cond := .code yX6_safe cX6_safe 7 (some .int) :: ((wsX6_safe_r1 ++ wsX6_safe_r2) ++ wsX60)
def wsX6_dealer_r1 : List Cond := [Cond.fieldLink RX6 73 "SpeaksForTheChairModel" "pieces" "I", Cond.fieldLink RX6 43 "SpeaksForTheChairModel" "now" "[I", Cond.methodLink RX6 168 yX6_asItIs, Cond.instanceMethod yX6_asItIs, Cond.selects RX6 yX6_asItIs yX6_asItIs, Cond.initialized RX6, Cond.code yX6_asItIs cX6_asItIs 1 none, Cond.fieldLink RX6 16 "SpeaksForTheChairModel" "st" "[I", Cond.methodLink RX6 123 yX6_copies, Cond.static yX6_copies, Cond.code yX6_copies cX6_copies 6 none, Cond.methodLink RX6 159 yX6_isLoose, Cond.instanceMethod yX6_isLoose, Cond.selects RX6 yX6_isLoose yX6_isLoose, Cond.code yX6_isLoose cX6_isLoose 2 (some .boolean), Cond.fieldLink RX6 127 "SpeaksForTheChairModel" "law" "I", Cond.fieldLink RX6 7 "SpeaksForTheChairModel" "piece" "[I", Cond.methodLink RX6 155 yX6_has, Cond.static yX6_has, Cond.code yX6_has cX6_has 2 (some .boolean), Cond.methodLink RX6 162 yX6_toldBy, Cond.instanceMethod yX6_toldBy, Cond.selects RX6 yX6_toldBy yX6_toldBy, Cond.code yX6_toldBy cX6_toldBy 4 (some .int)]
def wsX6_dealer_r2 : List Cond := [Cond.fieldLink RX6 80 "SpeaksForTheChairModel" "deeds" "I", Cond.methodLink RX6 152 yX6_doesTell, Cond.instanceMethod yX6_doesTell, Cond.selects RX6 yX6_doesTell yX6_doesTell, Cond.code yX6_doesTell cX6_doesTell 4 (some .boolean), Cond.methodLink RX6 142 yX6_roomOf, Cond.instanceMethod yX6_roomOf, Cond.selects RX6 yX6_roomOf yX6_roomOf, Cond.code yX6_roomOf cX6_roomOf 2 (some .int), Cond.fieldLink RX6 13 "SpeaksForTheChairModel" "deed" "[I", Cond.methodLink RX6 139 yX6_hourOf, Cond.instanceMethod yX6_hourOf, Cond.selects RX6 yX6_hourOf yX6_hourOf, Cond.code yX6_hourOf cX6_hourOf 2 (some .int), Cond.methodLink RX6 145 yX6_laterThan, Cond.instanceMethod yX6_laterThan, Cond.selects RX6 yX6_laterThan yX6_laterThan, Cond.code yX6_laterThan cX6_laterThan 6 (some .int), Cond.methodLink RX6 149 yX6_weighs, Cond.instanceMethod yX6_weighs, Cond.selects RX6 yX6_weighs yX6_weighs, Cond.code yX6_weighs cX6_weighs 2 (some .int), Cond.methodLink RX6 195 yX6_allWeigh, Cond.instanceMethod yX6_allWeigh]
def wsX6_dealer_r3 : List Cond := [Cond.selects RX6 yX6_allWeigh yX6_allWeigh, Cond.code yX6_allWeigh cX6_allWeigh 4 (some .int)]
def wsX6_dealer : List Cond := .code yX6_dealer cX6_dealer 10 (some .int) :: ((wsX6_dealer_r1 ++ (wsX6_dealer_r2 ++ wsX6_dealer_r3)) ++ wsX60)
def wsX6_ruin : List Cond := .code yX6_ruin cX6_ruin 4 (some .int) :: ([.fieldLink RX6 80 "SpeaksForTheChairModel" "deeds" "I", .fieldLink RX6 13 "SpeaksForTheChairModel" "deed" "[I", .fieldLink RX6 16 "SpeaksForTheChairModel" "st" "[I", .methodLink RX6 76 yX6_in, .static yX6_in, .initialized RX6, .code yX6_in cX6_in 3 (some .boolean), .methodLink RX6 155 yX6_has, .static yX6_has, .code yX6_has cX6_has 2 (some .boolean), .methodLink RX6 149 yX6_weighs, .instanceMethod yX6_weighs, .selects RX6 yX6_weighs yX6_weighs, .code yX6_weighs cX6_weighs 2 (some .int)] ++ wsX60)
def wsX6_seen : List Cond := .code yX6_seen cX6_seen 4 (some .int) :: ([.fieldLink RX6 136 "SpeaksForTheChairModel" "seens" "I", .fieldLink RX6 25 "SpeaksForTheChairModel" "seen" "[I", .methodLink RX6 165 yX6_isPiece, .instanceMethod yX6_isPiece, .selects RX6 yX6_isPiece yX6_isPiece, .initialized RX6, .code yX6_isPiece cX6_isPiece 2 (some .boolean), .fieldLink RX6 73 "SpeaksForTheChairModel" "pieces" "I", .methodLink RX6 76 yX6_in, .static yX6_in, .code yX6_in cX6_in 3 (some .boolean), .methodLink RX6 171 yX6_isDeed, .instanceMethod yX6_isDeed, .selects RX6 yX6_isDeed yX6_isDeed, .code yX6_isDeed cX6_isDeed 2 (some .boolean), .fieldLink RX6 80 "SpeaksForTheChairModel" "deeds" "I"] ++ wsX60)
def wsX6_forget : List Cond := .code yX6_forget cX6_forget 2 (some .int) :: ([.fieldLink RX6 136 "SpeaksForTheChairModel" "seens" "I"] ++ wsX60)
def wsX6_isSo_r1 : List Cond := [Cond.fieldLink RX6 136 "SpeaksForTheChairModel" "seens" "I", Cond.fieldLink RX6 25 "SpeaksForTheChairModel" "seen" "[I", Cond.fieldLink RX6 80 "SpeaksForTheChairModel" "deeds" "I", Cond.methodLink RX6 152 yX6_doesTell, Cond.instanceMethod yX6_doesTell, Cond.selects RX6 yX6_doesTell yX6_doesTell, Cond.initialized RX6, Cond.code yX6_doesTell cX6_doesTell 4 (some .boolean), Cond.fieldLink RX6 43 "SpeaksForTheChairModel" "now" "[I", Cond.fieldLink RX6 7 "SpeaksForTheChairModel" "piece" "[I", Cond.methodLink RX6 142 yX6_roomOf, Cond.instanceMethod yX6_roomOf, Cond.selects RX6 yX6_roomOf yX6_roomOf, Cond.code yX6_roomOf cX6_roomOf 2 (some .int), Cond.fieldLink RX6 13 "SpeaksForTheChairModel" "deed" "[I", Cond.methodLink RX6 139 yX6_hourOf, Cond.instanceMethod yX6_hourOf, Cond.selects RX6 yX6_hourOf yX6_hourOf, Cond.code yX6_hourOf cX6_hourOf 2 (some .int), Cond.methodLink RX6 145 yX6_laterThan, Cond.instanceMethod yX6_laterThan, Cond.selects RX6 yX6_laterThan yX6_laterThan, Cond.code yX6_laterThan cX6_laterThan 6 (some .int), Cond.methodLink RX6 149 yX6_weighs]
def wsX6_isSo_r2 : List Cond := [Cond.instanceMethod yX6_weighs, Cond.selects RX6 yX6_weighs yX6_weighs, Cond.code yX6_weighs cX6_weighs 2 (some .int)]
def wsX6_isSo : List Cond := .code yX6_isSo cX6_isSo 4 (some .boolean) :: ((wsX6_isSo_r1 ++ wsX6_isSo_r2) ++ wsX60)
def wsX6_may_r1 : List Cond := [Cond.fieldLink RX6 13 "SpeaksForTheChairModel" "deed" "[I", Cond.methodLink RX6 171 yX6_isDeed, Cond.instanceMethod yX6_isDeed, Cond.selects RX6 yX6_isDeed yX6_isDeed, Cond.initialized RX6, Cond.code yX6_isDeed cX6_isDeed 2 (some .boolean), Cond.fieldLink RX6 80 "SpeaksForTheChairModel" "deeds" "I", Cond.methodLink RX6 76 yX6_in, Cond.static yX6_in, Cond.code yX6_in cX6_in 3 (some .boolean), Cond.methodLink RX6 168 yX6_asItIs, Cond.instanceMethod yX6_asItIs, Cond.selects RX6 yX6_asItIs yX6_asItIs, Cond.code yX6_asItIs cX6_asItIs 1 none, Cond.fieldLink RX6 43 "SpeaksForTheChairModel" "now" "[I", Cond.fieldLink RX6 16 "SpeaksForTheChairModel" "st" "[I", Cond.methodLink RX6 123 yX6_copies, Cond.static yX6_copies, Cond.code yX6_copies cX6_copies 6 none, Cond.methodLink RX6 198 yX6_isSo, Cond.instanceMethod yX6_isSo, Cond.selects RX6 yX6_isSo yX6_isSo, Cond.code yX6_isSo cX6_isSo 4 (some .boolean), Cond.fieldLink RX6 136 "SpeaksForTheChairModel" "seens" "I"]
def wsX6_may_r2 : List Cond := [Cond.fieldLink RX6 25 "SpeaksForTheChairModel" "seen" "[I", Cond.methodLink RX6 152 yX6_doesTell, Cond.instanceMethod yX6_doesTell, Cond.selects RX6 yX6_doesTell yX6_doesTell, Cond.code yX6_doesTell cX6_doesTell 4 (some .boolean), Cond.fieldLink RX6 7 "SpeaksForTheChairModel" "piece" "[I", Cond.methodLink RX6 142 yX6_roomOf, Cond.instanceMethod yX6_roomOf, Cond.selects RX6 yX6_roomOf yX6_roomOf, Cond.code yX6_roomOf cX6_roomOf 2 (some .int), Cond.methodLink RX6 139 yX6_hourOf, Cond.instanceMethod yX6_hourOf, Cond.selects RX6 yX6_hourOf yX6_hourOf, Cond.code yX6_hourOf cX6_hourOf 2 (some .int), Cond.methodLink RX6 145 yX6_laterThan, Cond.instanceMethod yX6_laterThan, Cond.selects RX6 yX6_laterThan yX6_laterThan, Cond.code yX6_laterThan cX6_laterThan 6 (some .int), Cond.methodLink RX6 149 yX6_weighs, Cond.instanceMethod yX6_weighs, Cond.selects RX6 yX6_weighs yX6_weighs, Cond.code yX6_weighs cX6_weighs 2 (some .int)]
def wsX6_may : List Cond := .code yX6_may cX6_may 7 (some .int) :: ((wsX6_may_r1 ++ wsX6_may_r2) ++ wsX60)
def wsX6_likely_r1 : List Cond := [Cond.fieldLink RX6 16 "SpeaksForTheChairModel" "st" "[I", Cond.methodLink RX6 171 yX6_isDeed, Cond.instanceMethod yX6_isDeed, Cond.selects RX6 yX6_isDeed yX6_isDeed, Cond.initialized RX6, Cond.code yX6_isDeed cX6_isDeed 2 (some .boolean), Cond.fieldLink RX6 80 "SpeaksForTheChairModel" "deeds" "I", Cond.methodLink RX6 76 yX6_in, Cond.static yX6_in, Cond.code yX6_in cX6_in 3 (some .boolean), Cond.methodLink RX6 168 yX6_asItIs, Cond.instanceMethod yX6_asItIs, Cond.selects RX6 yX6_asItIs yX6_asItIs, Cond.code yX6_asItIs cX6_asItIs 1 none, Cond.fieldLink RX6 43 "SpeaksForTheChairModel" "now" "[I", Cond.methodLink RX6 123 yX6_copies, Cond.static yX6_copies, Cond.code yX6_copies cX6_copies 6 none, Cond.methodLink RX6 155 yX6_has, Cond.static yX6_has, Cond.code yX6_has cX6_has 2 (some .boolean), Cond.methodLink RX6 174 yX6_tellers, Cond.instanceMethod yX6_tellers, Cond.selects RX6 yX6_tellers yX6_tellers]
def wsX6_likely_r2 : List Cond := [Cond.code yX6_tellers cX6_tellers 4 (some .int), Cond.fieldLink RX6 73 "SpeaksForTheChairModel" "pieces" "I", Cond.methodLink RX6 159 yX6_isLoose, Cond.instanceMethod yX6_isLoose, Cond.selects RX6 yX6_isLoose yX6_isLoose, Cond.code yX6_isLoose cX6_isLoose 2 (some .boolean), Cond.fieldLink RX6 127 "SpeaksForTheChairModel" "law" "I", Cond.fieldLink RX6 7 "SpeaksForTheChairModel" "piece" "[I", Cond.methodLink RX6 152 yX6_doesTell, Cond.instanceMethod yX6_doesTell, Cond.selects RX6 yX6_doesTell yX6_doesTell, Cond.code yX6_doesTell cX6_doesTell 4 (some .boolean), Cond.methodLink RX6 142 yX6_roomOf, Cond.instanceMethod yX6_roomOf, Cond.selects RX6 yX6_roomOf yX6_roomOf, Cond.code yX6_roomOf cX6_roomOf 2 (some .int), Cond.fieldLink RX6 13 "SpeaksForTheChairModel" "deed" "[I", Cond.methodLink RX6 139 yX6_hourOf, Cond.instanceMethod yX6_hourOf, Cond.selects RX6 yX6_hourOf yX6_hourOf, Cond.code yX6_hourOf cX6_hourOf 2 (some .int), Cond.methodLink RX6 145 yX6_laterThan, Cond.instanceMethod yX6_laterThan, Cond.selects RX6 yX6_laterThan yX6_laterThan]
def wsX6_likely_r3 : List Cond := [Cond.code yX6_laterThan cX6_laterThan 6 (some .int), Cond.methodLink RX6 149 yX6_weighs, Cond.instanceMethod yX6_weighs, Cond.selects RX6 yX6_weighs yX6_weighs, Cond.code yX6_weighs cX6_weighs 2 (some .int), Cond.methodLink RX6 180 yX6_bits, Cond.static yX6_bits, Cond.code yX6_bits cX6_bits 3 (some .int)]
def wsX6_likely : List Cond := .code yX6_likely cX6_likely 11 (some .int) :: ((wsX6_likely_r1 ++ (wsX6_likely_r2 ++ wsX6_likely_r3)) ++ wsX60)
def wsX6_sale_r1 : List Cond := [Cond.constantLong RX6 201 (7919), Cond.constantLong RX6 203 (6151), Cond.constantLong RX6 205 (65521), Cond.constantLong RX6 207 (2), Cond.fieldLink RX6 73 "SpeaksForTheChairModel" "pieces" "I", Cond.fieldLink RX6 43 "SpeaksForTheChairModel" "now" "[I", Cond.fieldLink RX6 7 "SpeaksForTheChairModel" "piece" "[I", Cond.methodLink RX6 76 yX6_in, Cond.static yX6_in, Cond.initialized RX6, Cond.code yX6_in cX6_in 3 (some .boolean), Cond.methodLink RX6 168 yX6_asItIs, Cond.instanceMethod yX6_asItIs, Cond.selects RX6 yX6_asItIs yX6_asItIs, Cond.code yX6_asItIs cX6_asItIs 1 none, Cond.fieldLink RX6 16 "SpeaksForTheChairModel" "st" "[I", Cond.methodLink RX6 123 yX6_copies, Cond.static yX6_copies, Cond.code yX6_copies cX6_copies 6 none, Cond.methodLink RX6 159 yX6_isLoose, Cond.instanceMethod yX6_isLoose, Cond.selects RX6 yX6_isLoose yX6_isLoose, Cond.code yX6_isLoose cX6_isLoose 2 (some .boolean), Cond.fieldLink RX6 127 "SpeaksForTheChairModel" "law" "I"]
def wsX6_sale_r2 : List Cond := [Cond.methodLink RX6 155 yX6_has, Cond.static yX6_has, Cond.code yX6_has cX6_has 2 (some .boolean), Cond.methodLink RX6 162 yX6_toldBy, Cond.instanceMethod yX6_toldBy, Cond.selects RX6 yX6_toldBy yX6_toldBy, Cond.code yX6_toldBy cX6_toldBy 4 (some .int), Cond.fieldLink RX6 80 "SpeaksForTheChairModel" "deeds" "I", Cond.methodLink RX6 152 yX6_doesTell, Cond.instanceMethod yX6_doesTell, Cond.selects RX6 yX6_doesTell yX6_doesTell, Cond.code yX6_doesTell cX6_doesTell 4 (some .boolean), Cond.methodLink RX6 142 yX6_roomOf, Cond.instanceMethod yX6_roomOf, Cond.selects RX6 yX6_roomOf yX6_roomOf, Cond.code yX6_roomOf cX6_roomOf 2 (some .int), Cond.fieldLink RX6 13 "SpeaksForTheChairModel" "deed" "[I", Cond.methodLink RX6 139 yX6_hourOf, Cond.instanceMethod yX6_hourOf, Cond.selects RX6 yX6_hourOf yX6_hourOf, Cond.code yX6_hourOf cX6_hourOf 2 (some .int), Cond.methodLink RX6 145 yX6_laterThan, Cond.instanceMethod yX6_laterThan, Cond.selects RX6 yX6_laterThan yX6_laterThan]
def wsX6_sale_r3 : List Cond := [Cond.code yX6_laterThan cX6_laterThan 6 (some .int), Cond.methodLink RX6 149 yX6_weighs, Cond.instanceMethod yX6_weighs, Cond.selects RX6 yX6_weighs yX6_weighs, Cond.code yX6_weighs cX6_weighs 2 (some .int)]
def wsX6_sale : List Cond := .code yX6_sale cX6_sale 10 (some .int) :: ((wsX6_sale_r1 ++ (wsX6_sale_r2 ++ wsX6_sale_r3)) ++ wsX60)
def wsX6_keep : List Cond := .code yX6_keep cX6_keep 1 (some .int) :: ([.fieldLink RX6 133 "SpeaksForTheChairModel" "keeps" "I", .fieldLink RX6 22 "SpeaksForTheChairModel" "kept" "[I", .fieldLink RX6 16 "SpeaksForTheChairModel" "st" "[I", .methodLink RX6 123 yX6_copies, .static yX6_copies, .initialized RX6, .code yX6_copies cX6_copies 6 none] ++ wsX60)
def wsX6_back : List Cond := .code yX6_back cX6_back 1 (some .int) :: ([.fieldLink RX6 133 "SpeaksForTheChairModel" "keeps" "I", .fieldLink RX6 16 "SpeaksForTheChairModel" "st" "[I", .fieldLink RX6 22 "SpeaksForTheChairModel" "kept" "[I", .fieldLink RX6 130 "SpeaksForTheChairModel" "acts" "I", .methodLink RX6 123 yX6_copies, .static yX6_copies, .initialized RX6, .code yX6_copies cX6_copies 6 none] ++ wsX60)
def wsX6_manyAre : List Cond := .code yX6_manyAre cX6_manyAre 4 (some .int) :: ([.fieldLink RX6 73 "SpeaksForTheChairModel" "pieces" "I", .fieldLink RX6 16 "SpeaksForTheChairModel" "st" "[I"] ++ wsX60)
def wsX6_count_r1 : List Cond := [Cond.fieldLink RX6 73 "SpeaksForTheChairModel" "pieces" "I", Cond.fieldLink RX6 80 "SpeaksForTheChairModel" "deeds" "I", Cond.fieldLink RX6 16 "SpeaksForTheChairModel" "st" "[I", Cond.fieldLink RX6 136 "SpeaksForTheChairModel" "seens" "I", Cond.fieldLink RX6 130 "SpeaksForTheChairModel" "acts" "I", Cond.fieldLink RX6 133 "SpeaksForTheChairModel" "keeps" "I", Cond.fieldLink RX6 83 "SpeaksForTheChairModel" "texted" "I", Cond.methodLink RX6 168 yX6_asItIs, Cond.instanceMethod yX6_asItIs, Cond.selects RX6 yX6_asItIs yX6_asItIs, Cond.initialized RX6, Cond.code yX6_asItIs cX6_asItIs 1 none, Cond.fieldLink RX6 43 "SpeaksForTheChairModel" "now" "[I", Cond.methodLink RX6 123 yX6_copies, Cond.static yX6_copies, Cond.code yX6_copies cX6_copies 6 none, Cond.methodLink RX6 183 yX6_loose, Cond.instanceMethod yX6_loose, Cond.selects RX6 yX6_loose yX6_loose, Cond.code yX6_loose cX6_loose 3 (some .int), Cond.methodLink RX6 159 yX6_isLoose, Cond.instanceMethod yX6_isLoose, Cond.selects RX6 yX6_isLoose yX6_isLoose, Cond.code yX6_isLoose cX6_isLoose 2 (some .boolean)]
def wsX6_count_r2 : List Cond := [Cond.fieldLink RX6 127 "SpeaksForTheChairModel" "law" "I", Cond.fieldLink RX6 7 "SpeaksForTheChairModel" "piece" "[I", Cond.methodLink RX6 155 yX6_has, Cond.static yX6_has, Cond.code yX6_has cX6_has 2 (some .boolean), Cond.methodLink RX6 180 yX6_bits, Cond.static yX6_bits, Cond.code yX6_bits cX6_bits 3 (some .int), Cond.methodLink RX6 209 yX6_manyAre, Cond.instanceMethod yX6_manyAre, Cond.selects RX6 yX6_manyAre yX6_manyAre, Cond.code yX6_manyAre cX6_manyAre 4 (some .int)]
def wsX6_count : List Cond := .code yX6_count cX6_count 2 (some .int) :: ((wsX6_count_r1 ++ wsX6_count_r2) ++ wsX60)
def wsJ9_max_7cf53 : List Cond := .code yJ9_max_7cf53 cJ9_max_7cf53 2 (some .int) :: ([])
def wsJ9_min_7cf53 : List Cond := .code yJ9_min_7cf53 cJ9_min_7cf53 2 (some .int) :: ([])
def wsL_law_r1 : List Cond := [Cond.classLink RL 7 RX5, Cond.instantiable RX5 10, Cond.initialized RX5, Cond.classLink RL 10 RX6, Cond.instantiable RX6 24, Cond.initialized RX6, Cond.methodLink RL 9 yX5_init, Cond.instanceMethod yX5_init, Cond.code yX5_init cX5_init 2 none, Cond.methodLink RX5 1 objectInit, Cond.instanceMethod objectInit, Cond.code objectInit ⟨#[0xb1]⟩ 1 none, Cond.classLink RX5 7 RX1, Cond.instantiable RX1 2, Cond.initialized RX1, Cond.fieldLink RX5 10 "SpeaksForTheChair" "page" "LSpeaksForTheChair$Page;", Cond.classLink RX5 16 RX0, Cond.instantiable RX0 12, Cond.initialized RX0, Cond.fieldLink RX5 19 "SpeaksForTheChair" "laid" "LSpeaksForTheChair$House;", Cond.fieldLink RX5 23 "SpeaksForTheChair" "draft" "LSpeaksForTheChair$House;", Cond.classLink RX5 26 RX4, Cond.instantiable RX4 5, Cond.initialized RX4]
def wsL_law_r2 : List Cond := [Cond.fieldLink RX5 29 "SpeaksForTheChair" "now" "LSpeaksForTheChair$Standing;", Cond.fieldLink RX5 33 "SpeaksForTheChair" "trial" "LSpeaksForTheChair$Standing;", Cond.classLink RX5 36 RX2, Cond.instantiable RX2 3, Cond.initialized RX2, Cond.fieldLink RX5 39 "SpeaksForTheChair" "past" "LSpeaksForTheChair$Past;", Cond.classLink RX5 43 RX3, Cond.instantiable RX3 4, Cond.initialized RX3, Cond.fieldLink RX5 46 "SpeaksForTheChair" "sightings" "LSpeaksForTheChair$Sightings;", Cond.arrayClass .long, Cond.fieldLink RX5 50 "SpeaksForTheChair" "kept" "[J", Cond.arrayClass .int, Cond.fieldLink RX5 54 "SpeaksForTheChair" "told" "[I", Cond.instanceMethod yX1_init, Cond.code yX1_init cX1_init 1 none, Cond.methodLink RX1 3 objectInit, Cond.arrayClass .char, Cond.fieldLink RX1 9 "SpeaksForTheChair$Page" "letters" "[C", Cond.instanceMethod yX0_init, Cond.code yX0_init cX0_init 1 none, Cond.methodLink RX0 3 objectInit, Cond.fieldLink RX0 9 "SpeaksForTheChair$House" "kinds" "[I", Cond.fieldLink RX0 15 "SpeaksForTheChair$House" "prices" "[I"]
def wsL_law_r3 : List Cond := [Cond.fieldLink RX0 18 "SpeaksForTheChair$House" "persons" "[I", Cond.fieldLink RX0 21 "SpeaksForTheChair$House" "places" "[I", Cond.fieldLink RX0 24 "SpeaksForTheChair$House" "hours" "[I", Cond.fieldLink RX0 27 "SpeaksForTheChair$House" "weights" "[I", Cond.fieldLink RX0 30 "SpeaksForTheChair$House" "numbers" "[I", Cond.instanceMethod yX4_init, Cond.code yX4_init cX4_init 1 none, Cond.methodLink RX4 3 objectInit, Cond.instanceMethod yX2_init, Cond.code yX2_init cX2_init 1 none, Cond.methodLink RX2 3 objectInit, Cond.fieldLink RX2 9 "SpeaksForTheChair$Past" "ring" "[J", Cond.instanceMethod yX3_init, Cond.code yX3_init cX3_init 1 none, Cond.methodLink RX3 3 objectInit, Cond.fieldLink RX3 9 "SpeaksForTheChair$Sightings" "pieces" "[I", Cond.fieldLink RX3 15 "SpeaksForTheChair$Sightings" "deeds" "[I", Cond.arrayClass .boolean, Cond.fieldLink RX3 18 "SpeaksForTheChair$Sightings" "tells" "[Z", Cond.methodLink RX5 60 yJ0_length_8abf5, Cond.instanceMethod yJ0_length_8abf5, Cond.selects RJ0 yJ0_length_8abf5 yJ0_length_8abf5, Cond.initialized RJ0, Cond.code yJ0_length_8abf5 cJ0_length_8abf5 1 (some .int)]
def wsL_law_r4 : List Cond := [Cond.fieldLink RJ0 9 "java/lang/String" "value" "[B", Cond.methodLink RJ0 335 yJ0_coder_7d493, Cond.instanceMethod yJ0_coder_7d493, Cond.selects RJ0 yJ0_coder_7d493 yJ0_coder_7d493, Cond.code yJ0_coder_7d493 cJ0_coder_7d493 1 (some .byte), Cond.fieldLink RJ0 38 "java/lang/String" "COMPACT_STRINGS" "Z", Cond.fieldLink RJ0 15 "java/lang/String" "coder" "B", Cond.methodLink RX5 66 yJ0_charAt_5068e, Cond.instanceMethod yJ0_charAt_5068e, Cond.selects RJ0 yJ0_charAt_5068e yJ0_charAt_5068e, Cond.code yJ0_charAt_5068e cJ0_charAt_5068e 2 (some .char), Cond.methodLink RJ0 492 yJ0_isLatin1_aae02, Cond.instanceMethod yJ0_isLatin1_aae02, Cond.selects RJ0 yJ0_isLatin1_aae02 yJ0_isLatin1_aae02, Cond.code yJ0_isLatin1_aae02 cJ0_isLatin1_aae02 1 (some .boolean), Cond.methodLink RJ0 495 yJ1_charAt_3b067, Cond.static yJ1_charAt_3b067, Cond.initialized RJ1, Cond.code yJ1_charAt_3b067 cJ1_charAt_3b067 2 (some .char), Cond.methodLink RJ1 9 yJ0_checkIndex_df160, Cond.static yJ0_checkIndex_df160, Cond.code yJ0_checkIndex_df160 cJ0_checkIndex_df160 2 none, Cond.fieldLink RJ0 1053 "jdk/internal/util/Preconditions" "SIOOBE_FORMATTER" "Ljava/util/function/BiFunction;", Cond.methodLink RJ0 1059 yJ3_checkIndex_8e157]
def wsL_law_r5 : List Cond := [Cond.static yJ3_checkIndex_8e157, Cond.initialized RJ3, Cond.code yJ3_checkIndex_8e157 cJ3_checkIndex_8e157 3 (some .int), Cond.methodLink RJ0 498 yJ2_charAt_3b067, Cond.static yJ2_charAt_3b067, Cond.initialized RJ2, Cond.code yJ2_charAt_3b067 cJ2_charAt_3b067 2 (some .char), Cond.methodLink RJ2 67 yJ2_checkIndex_2214a, Cond.static yJ2_checkIndex_2214a, Cond.code yJ2_checkIndex_2214a cJ2_checkIndex_2214a 2 none, Cond.methodLink RJ2 48 yJ2_length_9d52b, Cond.static yJ2_length_9d52b, Cond.code yJ2_length_9d52b cJ2_length_9d52b 1 (some .int), Cond.methodLink RJ2 414 yJ0_checkIndex_df160, Cond.methodLink RJ2 71 yJ2_getChar_3b067, Cond.static yJ2_getChar_3b067, Cond.code yJ2_getChar_3b067 cJ2_getChar_3b067 2 (some .char), Cond.fieldLink RJ2 44 "java/lang/StringUTF16" "$assertionsDisabled" "Z", Cond.fieldLink RJ2 59 "java/lang/StringUTF16" "HI_BYTE_SHIFT" "I", Cond.fieldLink RJ2 63 "java/lang/StringUTF16" "LO_BYTE_SHIFT" "I", Cond.methodLink RX5 70 yX1_add, Cond.instanceMethod yX1_add, Cond.selects RX1 yX1_add yX1_add, Cond.code yX1_add cX1_add 2 (some .boolean)]
def wsL_law_r6 : List Cond := [Cond.fieldLink RX1 15 "SpeaksForTheChair$Page" "length" "I", Cond.methodLink RX5 74 yX5_lay, Cond.instanceMethod yX5_lay, Cond.selects RX5 yX5_lay yX5_lay, Cond.code yX5_lay cX5_lay 2 (some .int), Cond.fieldLink RX5 91 "SpeaksForTheChair$House" "pieces" "I", Cond.fieldLink RX5 94 "SpeaksForTheChair$House" "roomsAtFirst" "I", Cond.fieldLink RX5 97 "SpeaksForTheChair$House" "coins" "I", Cond.fieldLink RX5 106 "SpeaksForTheChair" "keptCount" "I", Cond.methodLink RX5 87 yX0_readFrom, Cond.instanceMethod yX0_readFrom, Cond.selects RX0 yX0_readFrom yX0_readFrom, Cond.code yX0_readFrom cX0_readFrom 4 (some .int), Cond.fieldLink RX0 33 "SpeaksForTheChair$House" "pieces" "I", Cond.fieldLink RX0 37 "SpeaksForTheChair$House" "deeds" "I", Cond.fieldLink RX0 40 "SpeaksForTheChair$House" "roomsAtFirst" "I", Cond.fieldLink RX0 43 "SpeaksForTheChair$House" "law" "I", Cond.fieldLink RX0 46 "SpeaksForTheChair$House" "coins" "I", Cond.fieldLink RX0 49 "SpeaksForTheChair$Page" "length" "I", Cond.methodLink RX0 54 yX0_readItem, Cond.instanceMethod yX0_readItem, Cond.selects RX0 yX0_readItem yX0_readItem, Cond.code yX0_readItem cX0_readItem 8 (some .int), Cond.methodLink RX0 58 yX1_letterAt]
def wsL_law_r7 : List Cond := [Cond.instanceMethod yX1_letterAt, Cond.selects RX1 yX1_letterAt yX1_letterAt, Cond.code yX1_letterAt cX1_letterAt 2 (some .int), Cond.methodLink RX0 62 yX0_numbersBehind, Cond.static yX0_numbersBehind, Cond.code yX0_numbersBehind cX0_numbersBehind 1 (some .int), Cond.methodLink RX0 65 yX0_figuresAt, Cond.static yX0_figuresAt, Cond.code yX0_figuresAt cX0_figuresAt 2 (some .int), Cond.methodLink RX0 76 yX0_isFigure, Cond.static yX0_isFigure, Cond.code yX0_isFigure cX0_isFigure 1 (some .boolean), Cond.methodLink RX0 68 yX0_numberAt, Cond.static yX0_numberAt, Cond.code yX0_numberAt cX0_numberAt 4 (some .int), Cond.methodLink RX0 72 yX0_takeItem, Cond.instanceMethod yX0_takeItem, Cond.selects RX0 yX0_takeItem yX0_takeItem, Cond.code yX0_takeItem cX0_takeItem 2 (some .boolean), Cond.methodLink RX0 79 yX0_takePiece, Cond.instanceMethod yX0_takePiece, Cond.selects RX0 yX0_takePiece yX0_takePiece, Cond.code yX0_takePiece cX0_takePiece 1 (some .boolean), Cond.methodLink RX0 83 yX0_takeDeed]
def wsL_law_r8 : List Cond := [Cond.instanceMethod yX0_takeDeed, Cond.selects RX0 yX0_takeDeed yX0_takeDeed, Cond.code yX0_takeDeed cX0_takeDeed 1 (some .boolean), Cond.methodLink RX0 86 yX0_takeCoins, Cond.instanceMethod yX0_takeCoins, Cond.selects RX0 yX0_takeCoins yX0_takeCoins, Cond.code yX0_takeCoins cX0_takeCoins 1 (some .boolean), Cond.methodLink RX0 89 yX0_takeLaw, Cond.instanceMethod yX0_takeLaw, Cond.selects RX0 yX0_takeLaw yX0_takeLaw, Cond.code yX0_takeLaw cX0_takeLaw 1 (some .boolean), Cond.methodLink RX5 100 yX4_begin, Cond.instanceMethod yX4_begin, Cond.selects RX4 yX4_begin yX4_begin, Cond.code yX4_begin cX4_begin 3 none, Cond.fieldLink RX4 9 "SpeaksForTheChair$Standing" "rooms" "I", Cond.fieldLink RX4 15 "SpeaksForTheChair$Standing" "bought" "I", Cond.fieldLink RX4 18 "SpeaksForTheChair$Standing" "spoken" "I", Cond.fieldLink RX4 21 "SpeaksForTheChair$Standing" "out" "I", Cond.fieldLink RX4 24 "SpeaksForTheChair$Standing" "coins" "I", Cond.methodLink RX5 104 yX2_clear, Cond.instanceMethod yX2_clear, Cond.selects RX2 yX2_clear yX2_clear, Cond.code yX2_clear cX2_clear 1 none]
def wsL_law_r9 : List Cond := [Cond.fieldLink RX2 19 "SpeaksForTheChair$Past" "depth" "I", Cond.methodLink RX5 105 yX3_clear, Cond.instanceMethod yX3_clear, Cond.selects RX3 yX3_clear yX3_clear, Cond.code yX3_clear cX3_clear 1 none, Cond.fieldLink RX3 22 "SpeaksForTheChair$Sightings" "length" "I", Cond.methodLink RX5 77 yX1_clear, Cond.instanceMethod yX1_clear, Cond.selects RX1 yX1_clear yX1_clear, Cond.code yX1_clear cX1_clear 1 none, Cond.methodLink RL 12 yX6_init, Cond.instanceMethod yX6_init, Cond.code yX6_init cX6_init 1 none, Cond.methodLink RX6 1 objectInit, Cond.fieldLink RX6 7 "SpeaksForTheChairModel" "piece" "[I", Cond.fieldLink RX6 13 "SpeaksForTheChairModel" "deed" "[I", Cond.fieldLink RX6 16 "SpeaksForTheChairModel" "st" "[I", Cond.fieldLink RX6 19 "SpeaksForTheChairModel" "was" "[I", Cond.fieldLink RX6 22 "SpeaksForTheChairModel" "kept" "[I", Cond.fieldLink RX6 25 "SpeaksForTheChairModel" "seen" "[I", Cond.fieldLink RX6 28 "SpeaksForTheChairModel" "text" "[I", Cond.fieldLink RX6 31 "SpeaksForTheChairModel" "told" "[I", Cond.fieldLink RX6 34 "SpeaksForTheChairModel" "readPiece" "[I", Cond.fieldLink RX6 37 "SpeaksForTheChairModel" "readRoom" "[I"]
def wsL_law_r10 : List Cond := [Cond.fieldLink RX6 40 "SpeaksForTheChairModel" "readDeed" "[I", Cond.fieldLink RX6 43 "SpeaksForTheChairModel" "now" "[I", Cond.fieldLink RX6 57 "SpeaksForTheChairModel" "readCoins" "I", Cond.fieldLink RX6 61 "SpeaksForTheChairModel" "readLaw" "I", Cond.methodLink RX6 46 yX6_clearTold, Cond.instanceMethod yX6_clearTold, Cond.selects RX6 yX6_clearTold yX6_clearTold, Cond.code yX6_clearTold cX6_clearTold 1 none, Cond.fieldLink RX6 67 "SpeaksForTheChairModel" "readPieces" "I", Cond.fieldLink RX6 70 "SpeaksForTheChairModel" "readDeeds" "I", Cond.methodLink RX6 49 yX6_tellsPiece, Cond.instanceMethod yX6_tellsPiece, Cond.selects RX6 yX6_tellsPiece yX6_tellsPiece, Cond.code yX6_tellsPiece cX6_tellsPiece 4 none, Cond.methodLink RX6 53 yX6_tellsDeed, Cond.instanceMethod yX6_tellsDeed, Cond.selects RX6 yX6_tellsDeed yX6_tellsDeed, Cond.code yX6_tellsDeed cX6_tellsDeed 5 none, Cond.methodLink RX6 64 yX6_settles, Cond.instanceMethod yX6_settles, Cond.selects RX6 yX6_settles yX6_settles, Cond.code yX6_settles cX6_settles 2 none, Cond.fieldLink RX6 73 "SpeaksForTheChairModel" "pieces" "I", Cond.fieldLink RX6 80 "SpeaksForTheChairModel" "deeds" "I"]
def wsL_law_r11 : List Cond := [Cond.fieldLink RX6 127 "SpeaksForTheChairModel" "law" "I", Cond.fieldLink RX6 130 "SpeaksForTheChairModel" "acts" "I", Cond.fieldLink RX6 133 "SpeaksForTheChairModel" "keeps" "I", Cond.fieldLink RX6 136 "SpeaksForTheChairModel" "seens" "I", Cond.methodLink RX6 123 yX6_copies, Cond.static yX6_copies, Cond.code yX6_copies cX6_copies 6 none, Cond.methodLink RL 13 yX5_write, Cond.instanceMethod yX5_write, Cond.selects RX5 yX5_write yX5_write, Cond.code yX5_write cX5_write 2 (some .int), Cond.fieldLink RX5 84 "SpeaksForTheChair$Page" "length" "I", Cond.methodLink RX5 80 yX5_isWithin, Cond.static yX5_isWithin, Cond.code yX5_isWithin cX5_isWithin 3 (some .boolean), Cond.methodLink RL 17 yX6_write, Cond.instanceMethod yX6_write, Cond.selects RX6 yX6_write yX6_write, Cond.code yX6_write cX6_write 2 (some .int), Cond.fieldLink RX6 83 "SpeaksForTheChairModel" "texted" "I", Cond.methodLink RX6 76 yX6_in, Cond.static yX6_in, Cond.code yX6_in cX6_in 3 (some .boolean), Cond.methodLink RL 18 yX5_wipe]
def wsL_law_r12 : List Cond := [Cond.instanceMethod yX5_wipe, Cond.selects RX5 yX5_wipe yX5_wipe, Cond.code yX5_wipe cX5_wipe 2 (some .int), Cond.methodLink RL 22 yX6_wipe, Cond.instanceMethod yX6_wipe, Cond.selects RX6 yX6_wipe yX6_wipe, Cond.code yX6_wipe cX6_wipe 2 (some .int), Cond.methodLink RL 23 yX5_fault, Cond.instanceMethod yX5_fault, Cond.selects RX5 yX5_fault yX5_fault, Cond.code yX5_fault cX5_fault 1 (some .int), Cond.methodLink RL 26 yX6_fault, Cond.instanceMethod yX6_fault, Cond.selects RX6 yX6_fault yX6_fault, Cond.code yX6_fault cX6_fault 2 (some .int), Cond.fieldLink RX6 86 "SpeaksForTheChairModel" "at" "I", Cond.methodLink RX6 116 yX6_readItem, Cond.instanceMethod yX6_readItem, Cond.selects RX6 yX6_readItem yX6_readItem, Cond.code yX6_readItem cX6_readItem 2 (some .boolean), Cond.methodLink RX6 89 yX6_letterAt, Cond.instanceMethod yX6_letterAt, Cond.selects RX6 yX6_letterAt yX6_letterAt, Cond.code yX6_letterAt cX6_letterAt 2 (some .int)]
def wsL_law_r13 : List Cond := [Cond.methodLink RX6 103 yX6_readPieceOf, Cond.instanceMethod yX6_readPieceOf, Cond.selects RX6 yX6_readPieceOf yX6_readPieceOf, Cond.code yX6_readPieceOf cX6_readPieceOf 1 (some .boolean), Cond.methodLink RX6 97 yX6_readNumbers, Cond.instanceMethod yX6_readNumbers, Cond.selects RX6 yX6_readNumbers yX6_readNumbers, Cond.code yX6_readNumbers cX6_readNumbers 3 (some .boolean), Cond.methodLink RX6 93 yX6_isFigure, Cond.static yX6_isFigure, Cond.code yX6_isFigure cX6_isFigure 1 (some .boolean), Cond.methodLink RX6 100 yX6_isTold, Cond.instanceMethod yX6_isTold, Cond.selects RX6 yX6_isTold yX6_isTold, Cond.code yX6_isTold cX6_isTold 4 (some .boolean), Cond.methodLink RX6 107 yX6_readDeedOf, Cond.instanceMethod yX6_readDeedOf, Cond.selects RX6 yX6_readDeedOf yX6_readDeedOf, Cond.code yX6_readDeedOf cX6_readDeedOf 1 (some .boolean), Cond.methodLink RX6 110 yX6_readCoinsOf, Cond.instanceMethod yX6_readCoinsOf, Cond.selects RX6 yX6_readCoinsOf yX6_readCoinsOf, Cond.code yX6_readCoinsOf cX6_readCoinsOf 2 (some .boolean), Cond.methodLink RX6 113 yX6_readLawOf]
def wsL_law_r14 : List Cond := [Cond.instanceMethod yX6_readLawOf, Cond.selects RX6 yX6_readLawOf yX6_readLawOf, Cond.code yX6_readLawOf cX6_readLawOf 1 (some .boolean), Cond.methodLink RL 27 yX5_lay, Cond.methodLink RL 30 yX6_lay, Cond.instanceMethod yX6_lay, Cond.selects RX6 yX6_lay yX6_lay, Cond.code yX6_lay cX6_lay 1 (some .int), Cond.methodLink RX6 119 yX6_fault, Cond.methodLink RL 31 yX5_piece, Cond.instanceMethod yX5_piece, Cond.selects RX5 yX5_piece yX5_piece, Cond.code yX5_piece cX5_piece 3 (some .int), Cond.fieldLink RX5 113 "SpeaksForTheChair$House" "kinds" "[I", Cond.fieldLink RX5 120 "SpeaksForTheChair$House" "prices" "[I", Cond.methodLink RX5 109 yX5_isPiece, Cond.instanceMethod yX5_isPiece, Cond.selects RX5 yX5_isPiece yX5_isPiece, Cond.code yX5_isPiece cX5_isPiece 2 (some .boolean), Cond.methodLink RX5 116 yX4_roomOf, Cond.instanceMethod yX4_roomOf, Cond.selects RX4 yX4_roomOf yX4_roomOf, Cond.code yX4_roomOf cX4_roomOf 2 (some .int), Cond.methodLink RX5 123 yX4_howIs]
def wsL_law_r15 : List Cond := [Cond.instanceMethod yX4_howIs, Cond.selects RX4 yX4_howIs yX4_howIs, Cond.code yX4_howIs cX4_howIs 2 (some .int), Cond.methodLink RX5 126 yX0_toldBy, Cond.instanceMethod yX0_toldBy, Cond.selects RX0 yX0_toldBy yX0_toldBy, Cond.code yX0_toldBy cX0_toldBy 5 (some .int), Cond.methodLink RX0 92 yX0_wouldTell, Cond.instanceMethod yX0_wouldTell, Cond.selects RX0 yX0_wouldTell yX0_wouldTell, Cond.code yX0_wouldTell cX0_wouldTell 6 (some .boolean), Cond.methodLink RX0 96 yX0_laterOnes, Cond.instanceMethod yX0_laterOnes, Cond.selects RX0 yX0_laterOnes yX0_laterOnes, Cond.code yX0_laterOnes cX0_laterOnes 7 (some .int), Cond.methodLink RX5 130 yX5_isLoose, Cond.instanceMethod yX5_isLoose, Cond.selects RX5 yX5_isLoose yX5_isLoose, Cond.code yX5_isLoose cX5_isLoose 3 (some .boolean), Cond.methodLink RX5 256 yX0_forbids, Cond.instanceMethod yX0_forbids, Cond.selects RX0 yX0_forbids yX0_forbids, Cond.code yX0_forbids cX0_forbids 2 (some .boolean), Cond.methodLink RL 35 yX6_piece]
def wsL_law_r16 : List Cond := [Cond.instanceMethod yX6_piece, Cond.selects RX6 yX6_piece yX6_piece, Cond.code yX6_piece cX6_piece 3 (some .int), Cond.methodLink RX6 165 yX6_isPiece, Cond.instanceMethod yX6_isPiece, Cond.selects RX6 yX6_isPiece yX6_isPiece, Cond.code yX6_isPiece cX6_isPiece 2 (some .boolean), Cond.methodLink RX6 168 yX6_asItIs, Cond.instanceMethod yX6_asItIs, Cond.selects RX6 yX6_asItIs yX6_asItIs, Cond.code yX6_asItIs cX6_asItIs 1 none, Cond.methodLink RX6 162 yX6_toldBy, Cond.instanceMethod yX6_toldBy, Cond.selects RX6 yX6_toldBy yX6_toldBy, Cond.code yX6_toldBy cX6_toldBy 4 (some .int), Cond.methodLink RX6 152 yX6_doesTell, Cond.instanceMethod yX6_doesTell, Cond.selects RX6 yX6_doesTell yX6_doesTell, Cond.code yX6_doesTell cX6_doesTell 4 (some .boolean), Cond.methodLink RX6 142 yX6_roomOf, Cond.instanceMethod yX6_roomOf, Cond.selects RX6 yX6_roomOf yX6_roomOf, Cond.code yX6_roomOf cX6_roomOf 2 (some .int), Cond.methodLink RX6 139 yX6_hourOf]
def wsL_law_r17 : List Cond := [Cond.instanceMethod yX6_hourOf, Cond.selects RX6 yX6_hourOf yX6_hourOf, Cond.code yX6_hourOf cX6_hourOf 2 (some .int), Cond.methodLink RX6 145 yX6_laterThan, Cond.instanceMethod yX6_laterThan, Cond.selects RX6 yX6_laterThan yX6_laterThan, Cond.code yX6_laterThan cX6_laterThan 6 (some .int), Cond.methodLink RX6 149 yX6_weighs, Cond.instanceMethod yX6_weighs, Cond.selects RX6 yX6_weighs yX6_weighs, Cond.code yX6_weighs cX6_weighs 2 (some .int), Cond.methodLink RX6 159 yX6_isLoose, Cond.instanceMethod yX6_isLoose, Cond.selects RX6 yX6_isLoose yX6_isLoose, Cond.code yX6_isLoose cX6_isLoose 2 (some .boolean), Cond.methodLink RX6 155 yX6_has, Cond.static yX6_has, Cond.code yX6_has cX6_has 2 (some .boolean), Cond.methodLink RL 36 yX5_deed, Cond.instanceMethod yX5_deed, Cond.selects RX5 yX5_deed yX5_deed, Cond.code yX5_deed cX5_deed 3 (some .int), Cond.fieldLink RX5 137 "SpeaksForTheChair$House" "persons" "[I", Cond.fieldLink RX5 140 "SpeaksForTheChair$House" "places" "[I"]
def wsL_law_r18 : List Cond := [Cond.fieldLink RX5 143 "SpeaksForTheChair$House" "hours" "[I", Cond.fieldLink RX5 146 "SpeaksForTheChair$House" "weights" "[I", Cond.methodLink RX5 134 yX5_isDeed, Cond.instanceMethod yX5_isDeed, Cond.selects RX5 yX5_isDeed yX5_isDeed, Cond.code yX5_isDeed cX5_isDeed 2 (some .boolean), Cond.fieldLink RX5 220 "SpeaksForTheChair$House" "deeds" "I", Cond.methodLink RX5 149 yX5_hasComeOut, Cond.instanceMethod yX5_hasComeOut, Cond.selects RX5 yX5_hasComeOut yX5_hasComeOut, Cond.code yX5_hasComeOut cX5_hasComeOut 2 (some .boolean), Cond.fieldLink RX5 191 "SpeaksForTheChair$Standing" "out" "I", Cond.methodLink RX5 152 yX5_looseTellers, Cond.instanceMethod yX5_looseTellers, Cond.selects RX5 yX5_looseTellers yX5_looseTellers, Cond.code yX5_looseTellers cX5_looseTellers 4 (some .int), Cond.methodLink RL 39 yX6_deed, Cond.instanceMethod yX6_deed, Cond.selects RX6 yX6_deed yX6_deed, Cond.code yX6_deed cX6_deed 3 (some .int), Cond.methodLink RX6 171 yX6_isDeed, Cond.instanceMethod yX6_isDeed, Cond.selects RX6 yX6_isDeed yX6_isDeed, Cond.code yX6_isDeed cX6_isDeed 2 (some .boolean)]
def wsL_law_r19 : List Cond := [Cond.methodLink RX6 174 yX6_tellers, Cond.instanceMethod yX6_tellers, Cond.selects RX6 yX6_tellers yX6_tellers, Cond.code yX6_tellers cX6_tellers 4 (some .int), Cond.methodLink RL 40 yX5_speak, Cond.instanceMethod yX5_speak, Cond.selects RX5 yX5_speak yX5_speak, Cond.code yX5_speak cX5_speak 2 (some .int), Cond.methodLink RX5 155 yX4_packed, Cond.instanceMethod yX4_packed, Cond.selects RX4 yX4_packed yX4_packed, Cond.code yX4_packed cX4_packed 1 (some .long), Cond.methodLink RX5 159 yX2_push, Cond.instanceMethod yX2_push, Cond.selects RX2 yX2_push yX2_push, Cond.code yX2_push cX2_push 3 none, Cond.fieldLink RX2 15 "SpeaksForTheChair$Past" "next" "I", Cond.methodLink RX2 22 Lib.Math.min.name, Cond.static Lib.Math.min.name, Cond.initialized "java/lang/Math", Cond.code Lib.Math.min.name Lib.Math.min.code 2 (some .int), Cond.methodLink RX5 163 yX4_letSpeak, Cond.instanceMethod yX4_letSpeak, Cond.selects RX4 yX4_letSpeak yX4_letSpeak]
def wsL_law_r20 : List Cond := [Cond.code yX4_letSpeak cX4_letSpeak 4 (some .int), Cond.methodLink RX4 31 yJ6_bitCount_0f7a4, Cond.static yJ6_bitCount_0f7a4, Cond.initialized RJ6, Cond.code yJ6_bitCount_0f7a4 cJ6_bitCount_0f7a4 1 (some .int), Cond.constant RJ6 265 (1431655765), Cond.constant RJ6 266 (858993459), Cond.constant RJ6 267 (252645135), Cond.methodLink RL 43 yX6_speak, Cond.instanceMethod yX6_speak, Cond.selects RX6 yX6_speak yX6_speak, Cond.code yX6_speak cX6_speak 3 (some .int), Cond.methodLink RX6 177 yX6_remembers, Cond.instanceMethod yX6_remembers, Cond.selects RX6 yX6_remembers yX6_remembers, Cond.code yX6_remembers cX6_remembers 2 none, Cond.methodLink RX6 180 yX6_bits, Cond.static yX6_bits, Cond.code yX6_bits cX6_bits 3 (some .int), Cond.methodLink RL 44 yX5_buy, Cond.instanceMethod yX5_buy, Cond.selects RX5 yX5_buy yX5_buy, Cond.code yX5_buy cX5_buy 2 (some .int), Cond.fieldLink RX5 172 "SpeaksForTheChair$Standing" "coins" "I"]
def wsL_law_r21 : List Cond := [Cond.methodLink RX5 166 yX5_canBeBought, Cond.instanceMethod yX5_canBeBought, Cond.selects RX5 yX5_canBeBought yX5_canBeBought, Cond.code yX5_canBeBought cX5_canBeBought 3 (some .boolean), Cond.methodLink RX5 169 yX4_sell, Cond.instanceMethod yX4_sell, Cond.selects RX4 yX4_sell yX4_sell, Cond.code yX4_sell cX4_sell 3 none, Cond.methodLink RL 47 yX6_buy, Cond.instanceMethod yX6_buy, Cond.selects RX6 yX6_buy yX6_buy, Cond.code yX6_buy cX6_buy 2 (some .int), Cond.methodLink RL 48 yX5_carry, Cond.instanceMethod yX5_carry, Cond.selects RX5 yX5_carry yX5_carry, Cond.code yX5_carry cX5_carry 4 (some .int), Cond.methodLink RX5 173 yX4_move, Cond.instanceMethod yX4_move, Cond.selects RX4 yX4_move yX4_move, Cond.code yX4_move cX4_move 3 none, Cond.methodLink RL 51 yX6_carry, Cond.instanceMethod yX6_carry, Cond.selects RX6 yX6_carry yX6_carry, Cond.code yX6_carry cX6_carry 4 (some .int)]
def wsL_law_r22 : List Cond := [Cond.methodLink RL 52 yX5_undo, Cond.instanceMethod yX5_undo, Cond.selects RX5 yX5_undo yX5_undo, Cond.code yX5_undo cX5_undo 1 (some .int), Cond.fieldLink RX5 176 "SpeaksForTheChair$Past" "depth" "I", Cond.methodLink RX5 179 yX2_pop, Cond.instanceMethod yX2_pop, Cond.selects RX2 yX2_pop yX2_pop, Cond.code yX2_pop cX2_pop 1 (some .long), Cond.methodLink RX2 28 Lib.Math.max.name, Cond.static Lib.Math.max.name, Cond.code Lib.Math.max.name Lib.Math.max.code 2 (some .int), Cond.methodLink RX5 182 yX4_unpack, Cond.instanceMethod yX4_unpack, Cond.selects RX4 yX4_unpack yX4_unpack, Cond.code yX4_unpack cX4_unpack 3 none, Cond.constantLong RX4 27 (65535), Cond.constantLong RX4 29 (255), Cond.methodLink RL 55 yX6_undo, Cond.instanceMethod yX6_undo, Cond.selects RX6 yX6_undo yX6_undo, Cond.code yX6_undo cX6_undo 1 (some .int), Cond.methodLink RL 56 yX5_hush, Cond.instanceMethod yX5_hush]
def wsL_law_r23 : List Cond := [Cond.selects RX5 yX5_hush yX5_hush, Cond.code yX5_hush cX5_hush 3 (some .int), Cond.methodLink RX5 185 yX5_silence, Cond.instanceMethod yX5_silence, Cond.selects RX5 yX5_silence yX5_silence, Cond.code yX5_silence cX5_silence 4 (some .int), Cond.methodLink RX5 209 yX0_priceOf, Cond.instanceMethod yX0_priceOf, Cond.selects RX0 yX0_priceOf yX0_priceOf, Cond.code yX0_priceOf cX0_priceOf 4 (some .int), Cond.methodLink RL 59 yX6_hush, Cond.instanceMethod yX6_hush, Cond.selects RX6 yX6_hush yX6_hush, Cond.code yX6_hush cX6_hush 3 (some .int), Cond.methodLink RX6 192 yX6_hushes, Cond.instanceMethod yX6_hushes, Cond.selects RX6 yX6_hushes yX6_hushes, Cond.code yX6_hushes cX6_hushes 9 (some .int), Cond.methodLink RX6 183 yX6_loose, Cond.instanceMethod yX6_loose, Cond.selects RX6 yX6_loose yX6_loose, Cond.code yX6_loose cX6_loose 3 (some .int), Cond.methodLink RX6 186 yX6_toldByAll, Cond.instanceMethod yX6_toldByAll]
def wsL_law_r24 : List Cond := [Cond.selects RX6 yX6_toldByAll yX6_toldByAll, Cond.code yX6_toldByAll cX6_toldByAll 4 (some .int), Cond.methodLink RX6 189 yX6_priceOf, Cond.instanceMethod yX6_priceOf, Cond.selects RX6 yX6_priceOf yX6_priceOf, Cond.code yX6_priceOf cX6_priceOf 4 (some .int), Cond.methodLink RL 60 yX5_hushAll, Cond.instanceMethod yX5_hushAll, Cond.selects RX5 yX5_hushAll yX5_hushAll, Cond.code yX5_hushAll cX5_hushAll 3 (some .int), Cond.methodLink RX5 188 yX0_deedsAsHeavyAs, Cond.instanceMethod yX0_deedsAsHeavyAs, Cond.selects RX0 yX0_deedsAsHeavyAs yX0_deedsAsHeavyAs, Cond.code yX0_deedsAsHeavyAs cX0_deedsAsHeavyAs 4 (some .int), Cond.methodLink RL 63 yX6_hushAll, Cond.instanceMethod yX6_hushAll, Cond.selects RX6 yX6_hushAll yX6_hushAll, Cond.code yX6_hushAll cX6_hushAll 5 (some .int), Cond.methodLink RL 64 yX5_hushOne, Cond.instanceMethod yX5_hushOne, Cond.selects RX5 yX5_hushOne yX5_hushOne, Cond.code yX5_hushOne cX5_hushOne 3 (some .int), Cond.methodLink RX5 194 yX5_isPerson, Cond.static yX5_isPerson]
def wsL_law_r25 : List Cond := [Cond.code yX5_isPerson cX5_isPerson 1 (some .boolean), Cond.methodLink RX5 197 yX0_deedsOf, Cond.instanceMethod yX0_deedsOf, Cond.selects RX0 yX0_deedsOf yX0_deedsOf, Cond.code yX0_deedsOf cX0_deedsOf 4 (some .int), Cond.methodLink RL 67 yX6_hushOne, Cond.instanceMethod yX6_hushOne, Cond.selects RX6 yX6_hushOne yX6_hushOne, Cond.code yX6_hushOne cX6_hushOne 5 (some .int), Cond.methodLink RL 68 yX5_save, Cond.instanceMethod yX5_save, Cond.selects RX5 yX5_save yX5_save, Cond.code yX5_save cX5_save 7 (some .int), Cond.methodLink RX5 200 yX5_fillTold, Cond.instanceMethod yX5_fillTold, Cond.selects RX5 yX5_fillTold yX5_fillTold, Cond.code yX5_fillTold cX5_fillTold 2 none, Cond.methodLink RX5 203 yX5_looseOnes, Cond.instanceMethod yX5_looseOnes, Cond.selects RX5 yX5_looseOnes yX5_looseOnes, Cond.code yX5_looseOnes cX5_looseOnes 3 (some .int), Cond.methodLink RX5 206 yX5_weightLeft, Cond.instanceMethod yX5_weightLeft, Cond.selects RX5 yX5_weightLeft yX5_weightLeft]
def wsL_law_r26 : List Cond := [Cond.code yX5_weightLeft cX5_weightLeft 2 (some .int), Cond.methodLink RX5 212 yX5_toldBySet, Cond.instanceMethod yX5_toldBySet, Cond.selects RX5 yX5_toldBySet yX5_toldBySet, Cond.code yX5_toldBySet cX5_toldBySet 4 (some .int), Cond.methodLink RX5 230 yX0_weightOf, Cond.instanceMethod yX0_weightOf, Cond.selects RX0 yX0_weightOf yX0_weightOf, Cond.code yX0_weightOf cX0_weightOf 4 (some .int), Cond.methodLink RL 71 yX6_save, Cond.instanceMethod yX6_save, Cond.selects RX6 yX6_save yX6_save, Cond.code yX6_save cX6_save 7 (some .int), Cond.methodLink RX6 195 yX6_allWeigh, Cond.instanceMethod yX6_allWeigh, Cond.selects RX6 yX6_allWeigh yX6_allWeigh, Cond.code yX6_allWeigh cX6_allWeigh 4 (some .int), Cond.methodLink RL 72 yX5_together, Cond.instanceMethod yX5_together, Cond.selects RX5 yX5_together yX5_together, Cond.code yX5_together cX5_together 3 (some .int), Cond.methodLink RL 75 yX6_together, Cond.instanceMethod yX6_together, Cond.selects RX6 yX6_together yX6_together]
def wsL_law_r27 : List Cond := [Cond.code yX6_together cX6_together 3 (some .int), Cond.methodLink RL 76 yX5_cover, Cond.instanceMethod yX5_cover, Cond.selects RX5 yX5_cover yX5_cover, Cond.code yX5_cover cX5_cover 8 (some .int), Cond.methodLink RX5 215 yJ6_bitCount_0f7a4, Cond.methodLink RL 79 yX6_cover, Cond.instanceMethod yX6_cover, Cond.selects RX6 yX6_cover yX6_cover, Cond.code yX6_cover cX6_cover 6 (some .int), Cond.methodLink RL 80 yX5_safe, Cond.instanceMethod yX5_safe, Cond.selects RX5 yX5_safe yX5_safe, Cond.code yX5_safe cX5_safe 6 (some .int), Cond.methodLink RX5 223 yX0_wouldTell, Cond.methodLink RL 83 yX6_safe, Cond.instanceMethod yX6_safe, Cond.selects RX6 yX6_safe yX6_safe, Cond.code yX6_safe cX6_safe 7 (some .int), Cond.methodLink RL 84 yX5_dealer, Cond.instanceMethod yX5_dealer, Cond.selects RX5 yX5_dealer yX5_dealer, Cond.code yX5_dealer cX5_dealer 7 (some .int), Cond.methodLink RX5 227 yX5_loudest]
def wsL_law_r28 : List Cond := [Cond.instanceMethod yX5_loudest, Cond.selects RX5 yX5_loudest yX5_loudest, Cond.code yX5_loudest cX5_loudest 7 (some .int), Cond.methodLink RL 87 yX6_dealer, Cond.instanceMethod yX6_dealer, Cond.selects RX6 yX6_dealer yX6_dealer, Cond.code yX6_dealer cX6_dealer 10 (some .int), Cond.methodLink RL 88 yX5_ruin, Cond.instanceMethod yX5_ruin, Cond.selects RX5 yX5_ruin yX5_ruin, Cond.code yX5_ruin cX5_ruin 2 (some .int), Cond.methodLink RL 91 yX6_ruin, Cond.instanceMethod yX6_ruin, Cond.selects RX6 yX6_ruin yX6_ruin, Cond.code yX6_ruin cX6_ruin 4 (some .int), Cond.methodLink RL 92 yX5_seen, Cond.instanceMethod yX5_seen, Cond.selects RX5 yX5_seen yX5_seen, Cond.code yX5_seen cX5_seen 4 (some .int), Cond.fieldLink RX5 236 "SpeaksForTheChair$Sightings" "length" "I", Cond.methodLink RX5 233 yX3_add, Cond.instanceMethod yX3_add, Cond.selects RX3 yX3_add yX3_add, Cond.code yX3_add cX3_add 4 (some .boolean)]
def wsL_law_r29 : List Cond := [Cond.methodLink RL 96 yX6_seen, Cond.instanceMethod yX6_seen, Cond.selects RX6 yX6_seen yX6_seen, Cond.code yX6_seen cX6_seen 4 (some .int), Cond.methodLink RL 97 yX5_forget, Cond.instanceMethod yX5_forget, Cond.selects RX5 yX5_forget yX5_forget, Cond.code yX5_forget cX5_forget 2 (some .int), Cond.methodLink RL 100 yX6_forget, Cond.instanceMethod yX6_forget, Cond.selects RX6 yX6_forget yX6_forget, Cond.code yX6_forget cX6_forget 2 (some .int), Cond.methodLink RL 101 yX5_may, Cond.instanceMethod yX5_may, Cond.selects RX5 yX5_may yX5_may, Cond.code yX5_may cX5_may 3 (some .int), Cond.methodLink RX5 237 yX5_roomsThatMay, Cond.instanceMethod yX5_roomsThatMay, Cond.selects RX5 yX5_roomsThatMay yX5_roomsThatMay, Cond.code yX5_roomsThatMay cX5_roomsThatMay 4 (some .int), Cond.methodLink RX5 259 yX5_agreesWithSeen, Cond.instanceMethod yX5_agreesWithSeen, Cond.selects RX5 yX5_agreesWithSeen yX5_agreesWithSeen, Cond.code yX5_agreesWithSeen cX5_agreesWithSeen 7 (some .boolean)]
def wsL_law_r30 : List Cond := [Cond.fieldLink RX5 262 "SpeaksForTheChair$Sightings" "pieces" "[I", Cond.fieldLink RX5 264 "SpeaksForTheChair$Sightings" "deeds" "[I", Cond.fieldLink RX5 266 "SpeaksForTheChair$Sightings" "tells" "[Z", Cond.methodLink RX5 240 yX5_hoursThatMay, Cond.instanceMethod yX5_hoursThatMay, Cond.selects RX5 yX5_hoursThatMay yX5_hoursThatMay, Cond.code yX5_hoursThatMay cX5_hoursThatMay 4 (some .int), Cond.methodLink RL 104 yX6_may, Cond.instanceMethod yX6_may, Cond.selects RX6 yX6_may yX6_may, Cond.code yX6_may cX6_may 7 (some .int), Cond.methodLink RX6 198 yX6_isSo, Cond.instanceMethod yX6_isSo, Cond.selects RX6 yX6_isSo yX6_isSo, Cond.code yX6_isSo cX6_isSo 4 (some .boolean), Cond.methodLink RL 105 yX5_likely, Cond.instanceMethod yX5_likely, Cond.selects RX5 yX5_likely yX5_likely, Cond.code yX5_likely cX5_likely 9 (some .int), Cond.methodLink RL 108 yX6_likely, Cond.instanceMethod yX6_likely, Cond.selects RX6 yX6_likely yX6_likely, Cond.code yX6_likely cX6_likely 11 (some .int), Cond.methodLink RL 109 yX5_sale]
def wsL_law_r31 : List Cond := [Cond.instanceMethod yX5_sale, Cond.selects RX5 yX5_sale yX5_sale, Cond.code yX5_sale cX5_sale 5 (some .int), Cond.methodLink RX5 243 yX5_drawOf, Cond.static yX5_drawOf, Cond.code yX5_drawOf cX5_drawOf 4 (some .int), Cond.constantLong RX5 270 (7919), Cond.constantLong RX5 272 (6151), Cond.constantLong RX5 274 (65521), Cond.constantLong RX5 276 (2), Cond.methodLink RX5 246 yX5_dealOnce, Cond.instanceMethod yX5_dealOnce, Cond.selects RX5 yX5_dealOnce yX5_dealOnce, Cond.code yX5_dealOnce cX5_dealOnce 4 none, Cond.methodLink RL 112 yX6_sale, Cond.instanceMethod yX6_sale, Cond.selects RX6 yX6_sale yX6_sale, Cond.code yX6_sale cX6_sale 10 (some .int), Cond.constantLong RX6 201 (7919), Cond.constantLong RX6 203 (6151), Cond.constantLong RX6 205 (65521), Cond.constantLong RX6 207 (2), Cond.methodLink RL 113 yX5_keep, Cond.instanceMethod yX5_keep]
def wsL_law_r32 : List Cond := [Cond.selects RX5 yX5_keep yX5_keep, Cond.code yX5_keep cX5_keep 1 (some .int), Cond.methodLink RL 116 yX6_keep, Cond.instanceMethod yX6_keep, Cond.selects RX6 yX6_keep yX6_keep, Cond.code yX6_keep cX6_keep 1 (some .int), Cond.methodLink RL 117 yX5_back, Cond.instanceMethod yX5_back, Cond.selects RX5 yX5_back yX5_back, Cond.code yX5_back cX5_back 1 (some .int), Cond.methodLink RL 120 yX6_back, Cond.instanceMethod yX6_back, Cond.selects RX6 yX6_back yX6_back, Cond.code yX6_back cX6_back 1 (some .int), Cond.methodLink RL 121 yX5_count, Cond.instanceMethod yX5_count, Cond.selects RX5 yX5_count yX5_count, Cond.code yX5_count cX5_count 2 (some .int), Cond.fieldLink RX5 250 "SpeaksForTheChair$Standing" "bought" "I", Cond.fieldLink RX5 253 "SpeaksForTheChair$Standing" "spoken" "I", Cond.methodLink RL 124 yX6_count, Cond.instanceMethod yX6_count, Cond.selects RX6 yX6_count yX6_count, Cond.code yX6_count cX6_count 2 (some .int)]
def wsL_law_r33 : List Cond := [Cond.methodLink RX6 209 yX6_manyAre, Cond.instanceMethod yX6_manyAre, Cond.selects RX6 yX6_manyAre yX6_manyAre, Cond.code yX6_manyAre cX6_manyAre 4 (some .int)]
def wsL_law : List Cond := (wsL_law_r1 ++ (wsL_law_r2 ++ (wsL_law_r3 ++ (wsL_law_r4 ++ (wsL_law_r5 ++ (wsL_law_r6 ++ (wsL_law_r7 ++ (wsL_law_r8 ++ (wsL_law_r9 ++ (wsL_law_r10 ++ (wsL_law_r11 ++ (wsL_law_r12 ++ (wsL_law_r13 ++ (wsL_law_r14 ++ (wsL_law_r15 ++ (wsL_law_r16 ++ (wsL_law_r17 ++ (wsL_law_r18 ++ (wsL_law_r19 ++ (wsL_law_r20 ++ (wsL_law_r21 ++ (wsL_law_r22 ++ (wsL_law_r23 ++ (wsL_law_r24 ++ (wsL_law_r25 ++ (wsL_law_r26 ++ (wsL_law_r27 ++ (wsL_law_r28 ++ (wsL_law_r29 ++ (wsL_law_r30 ++ (wsL_law_r31 ++ (wsL_law_r32 ++ wsL_law_r33)))))))))))))))))))))))))))))))) ++ wsX50 ++ wsX60 ++ wsX10 ++ wsX00 ++ wsX40 ++ wsX20 ++ wsX30 ++ ([] : List Cond)
set_option maxRecDepth 20000 in
theorem wsL_law_in : ∀ w ∈ wsL_law, w ∈ lw_tbl := fun w h => (goodIn_p wsL_law [72, 75, 80, 96, 150, 176, 194, 218, 222, 228, 232, 235, 238, 243, 246, 249, 252, 256, 266, 270, 274, 278, 282, 285, 288, 291, 294, 298, 302, 306, 310, 314, 318, 322, 326, 330, 637, 642, 646, 650, 654, 657, 366, 369, 734, 737, 373, 741, 377, 745, 749, 753, 757, 761, 764, 768, 772, 776, 780, 784, 382, 386, 390, 394, 398, 402, 406, 410, 414, 789, 793, 797, 801, 805, 809, 813, 817, 821, 825, 828, 418, 422, 426, 430, 832, 836, 840, 434, 438, 442, 445, 449, 452, 844, 848, 851, 459, 463, 467, 855, 471, 475, 859, 479, 483, 486, 490, 863, 496, 500, 504, 867, 871, 875, 879, 883, 508, 512, 887, 516, 519, 523, 891, 527, 531, 535, 539, 543, 547, 895, 899, 551, 903, 555, 907, 560, 911, 565, 569, 915, 573, 919, 577, 581, 923, 585, 927, 589, 593, 597, 601, 931, 935, 605, 939, 609, 612, 620, 943, 624, 951, 628, 955, 632, 959, 963] (by decide +kernel) (by decide +kernel) w h).1
theorem inlX0 : ∀ w ∈ wsX00, w ∈ wsL_law := fun _ h => List.mem_append_left _ (List.mem_append_left _ (List.mem_append_left _ (List.mem_append_left _ (List.mem_append_right _ h))))
theorem inX0 : ∀ w ∈ wsX00, w ∈ lw_tbl := fun w h => wsL_law_in w (inlX0 w h)
theorem inlX1 : ∀ w ∈ wsX10, w ∈ wsL_law := fun _ h => List.mem_append_left _ (List.mem_append_left _ (List.mem_append_left _ (List.mem_append_left _ (List.mem_append_left _ (List.mem_append_right _ h)))))
theorem inX1 : ∀ w ∈ wsX10, w ∈ lw_tbl := fun w h => wsL_law_in w (inlX1 w h)
theorem inlX2 : ∀ w ∈ wsX20, w ∈ wsL_law := fun _ h => List.mem_append_left _ (List.mem_append_left _ (List.mem_append_right _ h))
theorem inX2 : ∀ w ∈ wsX20, w ∈ lw_tbl := fun w h => wsL_law_in w (inlX2 w h)
theorem inlX3 : ∀ w ∈ wsX30, w ∈ wsL_law := fun _ h => List.mem_append_left _ (List.mem_append_right _ h)
theorem inX3 : ∀ w ∈ wsX30, w ∈ lw_tbl := fun w h => wsL_law_in w (inlX3 w h)
theorem inlX4 : ∀ w ∈ wsX40, w ∈ wsL_law := fun _ h => List.mem_append_left _ (List.mem_append_left _ (List.mem_append_left _ (List.mem_append_right _ h)))
theorem inX4 : ∀ w ∈ wsX40, w ∈ lw_tbl := fun w h => wsL_law_in w (inlX4 w h)
theorem inlX5 : ∀ w ∈ wsX50, w ∈ wsL_law := fun _ h => List.mem_append_left _ (List.mem_append_left _ (List.mem_append_left _ (List.mem_append_left _ (List.mem_append_left _ (List.mem_append_left _ (List.mem_append_left _ (List.mem_append_right _ h)))))))
theorem inX5 : ∀ w ∈ wsX50, w ∈ lw_tbl := fun w h => wsL_law_in w (inlX5 w h)
theorem inlX6 : ∀ w ∈ wsX60, w ∈ wsL_law := fun _ h => List.mem_append_left _ (List.mem_append_left _ (List.mem_append_left _ (List.mem_append_left _ (List.mem_append_left _ (List.mem_append_left _ (List.mem_append_right _ h))))))
theorem inX6 : ∀ w ∈ wsX60, w ∈ lw_tbl := fun w h => wsL_law_in w (inlX6 w h)
theorem inJ6 : ∀ w ∈ wsJ60, w ∈ lw_tbl := by decide +kernel
theorem inJ9 : ∀ w ∈ wsJ90, w ∈ lw_tbl := by decide +kernel
theorem inJ0 : ∀ w ∈ wsJ00, w ∈ lw_tbl := by decide +kernel
theorem inJ1 : ∀ w ∈ wsJ10, w ∈ lw_tbl := by decide +kernel
theorem inJ2 : ∀ w ∈ wsJ20, w ∈ lw_tbl := by decide +kernel
theorem inJ3 : ∀ w ∈ wsJ30, w ∈ lw_tbl := by decide +kernel
theorem dX0_init_0 : decode cX0_init 0 = .ok (.aload_n 0, 1) := by decide +kernel
theorem dX0_init_1 : decode cX0_init 1 = .ok (.invokespecial 3, 3) := by decide +kernel
theorem dX0_init_4 : decode cX0_init 4 = .ok (.aload_n 0, 1) := by decide +kernel
theorem dX0_init_5 : decode cX0_init 5 = .ok (.bipush 8, 2) := by decide +kernel
theorem dX0_init_7 : decode cX0_init 7 = .ok (.newarray .int, 2) := by decide +kernel
theorem dX0_init_9 : decode cX0_init 9 = .ok (.putfield 9, 3) := by decide +kernel
theorem dX0_init_12 : decode cX0_init 12 = .ok (.aload_n 0, 1) := by decide +kernel
theorem dX0_init_13 : decode cX0_init 13 = .ok (.bipush 8, 2) := by decide +kernel
theorem dX0_init_15 : decode cX0_init 15 = .ok (.newarray .int, 2) := by decide +kernel
theorem dX0_init_17 : decode cX0_init 17 = .ok (.putfield 15, 3) := by decide +kernel
theorem dX0_init_20 : decode cX0_init 20 = .ok (.aload_n 0, 1) := by decide +kernel
theorem dX0_init_21 : decode cX0_init 21 = .ok (.bipush 9, 2) := by decide +kernel
theorem dX0_init_23 : decode cX0_init 23 = .ok (.newarray .int, 2) := by decide +kernel
theorem dX0_init_25 : decode cX0_init 25 = .ok (.putfield 18, 3) := by decide +kernel
theorem dX0_init_28 : decode cX0_init 28 = .ok (.aload_n 0, 1) := by decide +kernel
theorem dX0_init_29 : decode cX0_init 29 = .ok (.bipush 9, 2) := by decide +kernel
theorem dX0_init_31 : decode cX0_init 31 = .ok (.newarray .int, 2) := by decide +kernel
theorem dX0_init_33 : decode cX0_init 33 = .ok (.putfield 21, 3) := by decide +kernel
theorem dX0_init_36 : decode cX0_init 36 = .ok (.aload_n 0, 1) := by decide +kernel
theorem dX0_init_37 : decode cX0_init 37 = .ok (.bipush 9, 2) := by decide +kernel
theorem dX0_init_39 : decode cX0_init 39 = .ok (.newarray .int, 2) := by decide +kernel
theorem dX0_init_41 : decode cX0_init 41 = .ok (.putfield 24, 3) := by decide +kernel
theorem dX0_init_44 : decode cX0_init 44 = .ok (.aload_n 0, 1) := by decide +kernel
theorem dX0_init_45 : decode cX0_init 45 = .ok (.bipush 9, 2) := by decide +kernel
theorem dX0_init_47 : decode cX0_init 47 = .ok (.newarray .int, 2) := by decide +kernel
theorem dX0_init_49 : decode cX0_init 49 = .ok (.putfield 27, 3) := by decide +kernel
theorem dX0_init_52 : decode cX0_init 52 = .ok (.aload_n 0, 1) := by decide +kernel
theorem dX0_init_53 : decode cX0_init 53 = .ok (.iconst 4, 1) := by decide +kernel
theorem dX0_init_54 : decode cX0_init 54 = .ok (.newarray .int, 2) := by decide +kernel
theorem dX0_init_56 : decode cX0_init 56 = .ok (.putfield 30, 3) := by decide +kernel
theorem dX0_init_59 : decode cX0_init 59 = .ok (.return_, 1) := by decide +kernel
set_option maxRecDepth 20000 in
theorem ggX0_readFrom_X0_readItem : GoodIn wsX0_readFrom wsX0_readItem := goodIn_r _ [11, 12, 13, 14, 15, 16, 17, 18, 19, 20, 21, 10, 22, 23, 24, 25, 26, 27, 28, 29, 30, 31, 32, 33, 34, 35, 36, 37, 38, 39, 1, 40, 3, 41, 42, 43, 44, 45, 2, 46, 47, 48, 49, 50, 51, 52, 53, 5, 54, 55, 56, 57, 4, 58, 59, 60, 61, 62, 63, 64, 65, 66, 67, 68, 69, 70, 71] (by decide +kernel) (by decide +kernel)
set_option maxRecDepth 20000 in
theorem gX0_readFrom_X0_readItem : GoodIn wsX0_readFrom (wsV RX0 54 RX0 yX0_readItem wsX0_readItem) := goodIn_app (goodIn_of _ (by decide +kernel)) ggX0_readFrom_X0_readItem
theorem dX0_readFrom_0 : decode cX0_readFrom 0 = .ok (.aload_n 0, 1) := by decide +kernel
theorem dX0_readFrom_1 : decode cX0_readFrom 1 = .ok (.iconst 0, 1) := by decide +kernel
theorem dX0_readFrom_2 : decode cX0_readFrom 2 = .ok (.putfield 33, 3) := by decide +kernel
theorem dX0_readFrom_5 : decode cX0_readFrom 5 = .ok (.aload_n 0, 1) := by decide +kernel
theorem dX0_readFrom_6 : decode cX0_readFrom 6 = .ok (.iconst 0, 1) := by decide +kernel
theorem dX0_readFrom_7 : decode cX0_readFrom 7 = .ok (.putfield 37, 3) := by decide +kernel
theorem dX0_readFrom_10 : decode cX0_readFrom 10 = .ok (.aload_n 0, 1) := by decide +kernel
theorem dX0_readFrom_11 : decode cX0_readFrom 11 = .ok (.iconst 0, 1) := by decide +kernel
theorem dX0_readFrom_12 : decode cX0_readFrom 12 = .ok (.putfield 40, 3) := by decide +kernel
theorem dX0_readFrom_15 : decode cX0_readFrom 15 = .ok (.aload_n 0, 1) := by decide +kernel
theorem dX0_readFrom_16 : decode cX0_readFrom 16 = .ok (.iconst 0, 1) := by decide +kernel
theorem dX0_readFrom_17 : decode cX0_readFrom 17 = .ok (.putfield 43, 3) := by decide +kernel
theorem dX0_readFrom_20 : decode cX0_readFrom 20 = .ok (.aload_n 0, 1) := by decide +kernel
theorem dX0_readFrom_21 : decode cX0_readFrom 21 = .ok (.bipush 50, 2) := by decide +kernel
theorem dX0_readFrom_23 : decode cX0_readFrom 23 = .ok (.putfield 46, 3) := by decide +kernel
theorem dX0_readFrom_26 : decode cX0_readFrom 26 = .ok (.iconst 0, 1) := by decide +kernel
theorem dX0_readFrom_27 : decode cX0_readFrom 27 = .ok (.istore_n 2, 1) := by decide +kernel
theorem dX0_readFrom_28 : decode cX0_readFrom 28 = .ok (.iload_n 2, 1) := by decide +kernel
theorem dX0_readFrom_29 : decode cX0_readFrom 29 = .ok (.aload_n 1, 1) := by decide +kernel
theorem dX0_readFrom_30 : decode cX0_readFrom 30 = .ok (.getfield 49, 3) := by decide +kernel
theorem dX0_readFrom_33 : decode cX0_readFrom 33 = .ok (.if_icmp .ge 22, 3) := by decide +kernel
theorem dX0_readFrom_36 : decode cX0_readFrom 36 = .ok (.aload_n 0, 1) := by decide +kernel
theorem dX0_readFrom_37 : decode cX0_readFrom 37 = .ok (.aload_n 1, 1) := by decide +kernel
theorem dX0_readFrom_38 : decode cX0_readFrom 38 = .ok (.iload_n 2, 1) := by decide +kernel
theorem dX0_readFrom_39 : decode cX0_readFrom 39 = .ok (.invokevirtual 54, 3) := by decide +kernel
theorem dX0_readFrom_42 : decode cX0_readFrom 42 = .ok (.istore_n 3, 1) := by decide +kernel
theorem dX0_readFrom_43 : decode cX0_readFrom 43 = .ok (.iload_n 3, 1) := by decide +kernel
theorem dX0_readFrom_44 : decode cX0_readFrom 44 = .ok (.iload_n 2, 1) := by decide +kernel
theorem dX0_readFrom_45 : decode cX0_readFrom 45 = .ok (.if_icmp .gt 5, 3) := by decide +kernel
theorem dX0_readFrom_48 : decode cX0_readFrom 48 = .ok (.iload_n 2, 1) := by decide +kernel
theorem dX0_readFrom_49 : decode cX0_readFrom 49 = .ok (.ireturn, 1) := by decide +kernel
theorem dX0_readFrom_50 : decode cX0_readFrom 50 = .ok (.iload_n 3, 1) := by decide +kernel
theorem dX0_readFrom_51 : decode cX0_readFrom 51 = .ok (.istore_n 2, 1) := by decide +kernel
theorem dX0_readFrom_52 : decode cX0_readFrom 52 = .ok (.goto (-24), 3) := by decide +kernel
theorem dX0_readFrom_55 : decode cX0_readFrom 55 = .ok (.bipush (-4), 2) := by decide +kernel
theorem dX0_readFrom_57 : decode cX0_readFrom 57 = .ok (.ireturn, 1) := by decide +kernel
set_option maxRecDepth 20000 in
theorem ggX0_readItem_X1_letterAt : GoodIn wsX0_readItem wsX1_letterAt := goodIn_r _ [6, 7, 8, 65, 66] (by decide +kernel) (by decide +kernel)
set_option maxRecDepth 20000 in
theorem gX0_readItem_X1_letterAt : GoodIn wsX0_readItem (wsV RX0 58 RX1 yX1_letterAt wsX1_letterAt) := goodIn_app (goodIn_of _ (by decide +kernel)) ggX0_readItem_X1_letterAt
set_option maxRecDepth 20000 in
theorem ggX0_readItem_X0_numbersBehind : GoodIn wsX0_readItem wsX0_numbersBehind := goodIn_r _ [12] (by decide +kernel) (by decide +kernel)
set_option maxRecDepth 20000 in
theorem gX0_readItem_X0_numbersBehind : GoodIn wsX0_readItem (va_wsS RX0 62 yX0_numbersBehind wsX0_numbersBehind) := goodIn_app (goodIn_of _ (by decide +kernel)) ggX0_readItem_X0_numbersBehind
set_option maxRecDepth 20000 in
theorem ggX0_readItem_X0_figuresAt : GoodIn wsX0_readItem wsX0_figuresAt := goodIn_r _ [15, 2, 3, 4, 5, 6, 7, 8, 16, 17, 11, 18, 65, 66] (by decide +kernel) (by decide +kernel)
set_option maxRecDepth 20000 in
theorem gX0_readItem_X0_figuresAt : GoodIn wsX0_readItem (va_wsS RX0 65 yX0_figuresAt wsX0_figuresAt) := goodIn_app (goodIn_of _ (by decide +kernel)) ggX0_readItem_X0_figuresAt
set_option maxRecDepth 20000 in
theorem ggX0_readItem_X0_numberAt : GoodIn wsX0_readItem wsX0_numberAt := goodIn_r _ [21, 2, 3, 4, 5, 6, 7, 8, 65, 66] (by decide +kernel) (by decide +kernel)
set_option maxRecDepth 20000 in
theorem gX0_readItem_X0_numberAt : GoodIn wsX0_readItem (va_wsS RX0 68 yX0_numberAt wsX0_numberAt) := goodIn_app (goodIn_of _ (by decide +kernel)) ggX0_readItem_X0_numberAt
set_option maxRecDepth 20000 in
theorem ggX0_readItem_X0_takeItem : GoodIn wsX0_readItem wsX0_takeItem := goodIn_r _ [25, 26, 27, 28, 11, 29, 30, 1, 31, 32, 33, 34, 35, 36, 37, 38, 39, 40, 41, 42, 43, 44, 45, 46, 47, 48, 49, 50, 51, 52, 53, 54, 55, 56, 57, 58, 59, 60, 61, 62, 63, 64] (by decide +kernel) (by decide +kernel)
set_option maxRecDepth 20000 in
theorem gX0_readItem_X0_takeItem : GoodIn wsX0_readItem (wsV RX0 72 RX0 yX0_takeItem wsX0_takeItem) := goodIn_app (goodIn_of _ (by decide +kernel)) ggX0_readItem_X0_takeItem
theorem dX0_readItem_0 : decode cX0_readItem 0 = .ok (.aload_n 1, 1) := by decide +kernel
theorem dX0_readItem_1 : decode cX0_readItem 1 = .ok (.iload_n 2, 1) := by decide +kernel
theorem dX0_readItem_2 : decode cX0_readItem 2 = .ok (.invokevirtual 58, 3) := by decide +kernel
theorem dX0_readItem_5 : decode cX0_readItem 5 = .ok (.istore_n 3, 1) := by decide +kernel
theorem dX0_readItem_6 : decode cX0_readItem 6 = .ok (.iload_n 3, 1) := by decide +kernel
theorem dX0_readItem_7 : decode cX0_readItem 7 = .ok (.invokestatic 62, 3) := by decide +kernel
theorem dX0_readItem_10 : decode cX0_readItem 10 = .ok (.istore 4, 2) := by decide +kernel
theorem dX0_readItem_12 : decode cX0_readItem 12 = .ok (.iload_n 2, 1) := by decide +kernel
theorem dX0_readItem_13 : decode cX0_readItem 13 = .ok (.iconst 1, 1) := by decide +kernel
theorem dX0_readItem_14 : decode cX0_readItem 14 = .ok (.iadd, 1) := by decide +kernel
theorem dX0_readItem_15 : decode cX0_readItem 15 = .ok (.istore 5, 2) := by decide +kernel
theorem dX0_readItem_17 : decode cX0_readItem 17 = .ok (.iconst 0, 1) := by decide +kernel
theorem dX0_readItem_18 : decode cX0_readItem 18 = .ok (.istore 6, 2) := by decide +kernel
theorem dX0_readItem_20 : decode cX0_readItem 20 = .ok (.iload 6, 2) := by decide +kernel
theorem dX0_readItem_22 : decode cX0_readItem 22 = .ok (.iload 4, 2) := by decide +kernel
theorem dX0_readItem_24 : decode cX0_readItem 24 = .ok (.if_icmp .ge 76, 3) := by decide +kernel
theorem dX0_readItem_27 : decode cX0_readItem 27 = .ok (.aload_n 1, 1) := by decide +kernel
theorem dX0_readItem_28 : decode cX0_readItem 28 = .ok (.iload 5, 2) := by decide +kernel
theorem dX0_readItem_30 : decode cX0_readItem 30 = .ok (.invokestatic 65, 3) := by decide +kernel
theorem dX0_readItem_33 : decode cX0_readItem 33 = .ok (.istore 7, 2) := by decide +kernel
theorem dX0_readItem_35 : decode cX0_readItem 35 = .ok (.iload 7, 2) := by decide +kernel
theorem dX0_readItem_37 : decode cX0_readItem 37 = .ok (.ifCond .ne 5, 3) := by decide +kernel
theorem dX0_readItem_40 : decode cX0_readItem 40 = .ok (.iconst (-1), 1) := by decide +kernel
theorem dX0_readItem_41 : decode cX0_readItem 41 = .ok (.ireturn, 1) := by decide +kernel
theorem dX0_readItem_42 : decode cX0_readItem 42 = .ok (.aload_n 0, 1) := by decide +kernel
theorem dX0_readItem_43 : decode cX0_readItem 43 = .ok (.getfield 30, 3) := by decide +kernel
theorem dX0_readItem_46 : decode cX0_readItem 46 = .ok (.iload 6, 2) := by decide +kernel
theorem dX0_readItem_48 : decode cX0_readItem 48 = .ok (.aload_n 1, 1) := by decide +kernel
theorem dX0_readItem_49 : decode cX0_readItem 49 = .ok (.iload 5, 2) := by decide +kernel
theorem dX0_readItem_51 : decode cX0_readItem 51 = .ok (.iload 7, 2) := by decide +kernel
theorem dX0_readItem_53 : decode cX0_readItem 53 = .ok (.invokestatic 68, 3) := by decide +kernel
theorem dX0_readItem_56 : decode cX0_readItem 56 = .ok (.iastore, 1) := by decide +kernel
theorem dX0_readItem_57 : decode cX0_readItem 57 = .ok (.iload 5, 2) := by decide +kernel
theorem dX0_readItem_59 : decode cX0_readItem 59 = .ok (.iload 7, 2) := by decide +kernel
theorem dX0_readItem_61 : decode cX0_readItem 61 = .ok (.iadd, 1) := by decide +kernel
theorem dX0_readItem_62 : decode cX0_readItem 62 = .ok (.istore 5, 2) := by decide +kernel
theorem dX0_readItem_64 : decode cX0_readItem 64 = .ok (.aload_n 1, 1) := by decide +kernel
theorem dX0_readItem_65 : decode cX0_readItem 65 = .ok (.iload 5, 2) := by decide +kernel
theorem dX0_readItem_67 : decode cX0_readItem 67 = .ok (.invokevirtual 58, 3) := by decide +kernel
theorem dX0_readItem_70 : decode cX0_readItem 70 = .ok (.iload 6, 2) := by decide +kernel
theorem dX0_readItem_72 : decode cX0_readItem 72 = .ok (.iconst 1, 1) := by decide +kernel
theorem dX0_readItem_73 : decode cX0_readItem 73 = .ok (.iadd, 1) := by decide +kernel
theorem dX0_readItem_74 : decode cX0_readItem 74 = .ok (.iload 4, 2) := by decide +kernel
theorem dX0_readItem_76 : decode cX0_readItem 76 = .ok (.if_icmp .ge 8, 3) := by decide +kernel
theorem dX0_readItem_79 : decode cX0_readItem 79 = .ok (.bipush 44, 2) := by decide +kernel
theorem dX0_readItem_81 : decode cX0_readItem 81 = .ok (.goto 5, 3) := by decide +kernel
theorem dX0_readItem_84 : decode cX0_readItem 84 = .ok (.bipush 59, 2) := by decide +kernel
theorem dX0_readItem_86 : decode cX0_readItem 86 = .ok (.if_icmp .eq 5, 3) := by decide +kernel
theorem dX0_readItem_89 : decode cX0_readItem 89 = .ok (.iconst (-1), 1) := by decide +kernel
theorem dX0_readItem_90 : decode cX0_readItem 90 = .ok (.ireturn, 1) := by decide +kernel
theorem dX0_readItem_91 : decode cX0_readItem 91 = .ok (.iinc 5 1, 3) := by decide +kernel
theorem dX0_readItem_94 : decode cX0_readItem 94 = .ok (.iinc 6 1, 3) := by decide +kernel
theorem dX0_readItem_97 : decode cX0_readItem 97 = .ok (.goto (-77), 3) := by decide +kernel
theorem dX0_readItem_100 : decode cX0_readItem 100 = .ok (.aload_n 0, 1) := by decide +kernel
theorem dX0_readItem_101 : decode cX0_readItem 101 = .ok (.iload_n 3, 1) := by decide +kernel
theorem dX0_readItem_102 : decode cX0_readItem 102 = .ok (.invokevirtual 72, 3) := by decide +kernel
theorem dX0_readItem_105 : decode cX0_readItem 105 = .ok (.ifCond .eq 8, 3) := by decide +kernel
theorem dX0_readItem_108 : decode cX0_readItem 108 = .ok (.iload 5, 2) := by decide +kernel
theorem dX0_readItem_110 : decode cX0_readItem 110 = .ok (.goto 4, 3) := by decide +kernel
theorem dX0_readItem_113 : decode cX0_readItem 113 = .ok (.iconst (-1), 1) := by decide +kernel
theorem dX0_readItem_114 : decode cX0_readItem 114 = .ok (.ireturn, 1) := by decide +kernel
theorem dX0_numbersBehind_0 : decode cX0_numbersBehind 0 = .ok (.iload_n 0, 1) := by decide +kernel
theorem dX0_numbersBehind_1 : decode cX0_numbersBehind 1 = .ok (.lookupswitch 51 #[(100, 45), (108, 49), (109, 47), (112, 43)], 43) := by decide +kernel
theorem dX0_numbersBehind_44 : decode cX0_numbersBehind 44 = .ok (.iconst 3, 1) := by decide +kernel
theorem dX0_numbersBehind_45 : decode cX0_numbersBehind 45 = .ok (.ireturn, 1) := by decide +kernel
theorem dX0_numbersBehind_46 : decode cX0_numbersBehind 46 = .ok (.iconst 4, 1) := by decide +kernel
theorem dX0_numbersBehind_47 : decode cX0_numbersBehind 47 = .ok (.ireturn, 1) := by decide +kernel
theorem dX0_numbersBehind_48 : decode cX0_numbersBehind 48 = .ok (.iconst 1, 1) := by decide +kernel
theorem dX0_numbersBehind_49 : decode cX0_numbersBehind 49 = .ok (.ireturn, 1) := by decide +kernel
theorem dX0_numbersBehind_50 : decode cX0_numbersBehind 50 = .ok (.iconst 1, 1) := by decide +kernel
theorem dX0_numbersBehind_51 : decode cX0_numbersBehind 51 = .ok (.ireturn, 1) := by decide +kernel
theorem dX0_numbersBehind_52 : decode cX0_numbersBehind 52 = .ok (.iconst 0, 1) := by decide +kernel
theorem dX0_numbersBehind_53 : decode cX0_numbersBehind 53 = .ok (.ireturn, 1) := by decide +kernel
theorem dX0_isFigure_0 : decode cX0_isFigure 0 = .ok (.iload_n 0, 1) := by decide +kernel
theorem dX0_isFigure_1 : decode cX0_isFigure 1 = .ok (.bipush 48, 2) := by decide +kernel
theorem dX0_isFigure_3 : decode cX0_isFigure 3 = .ok (.if_icmp .lt 13, 3) := by decide +kernel
theorem dX0_isFigure_6 : decode cX0_isFigure 6 = .ok (.iload_n 0, 1) := by decide +kernel
theorem dX0_isFigure_7 : decode cX0_isFigure 7 = .ok (.bipush 57, 2) := by decide +kernel
theorem dX0_isFigure_9 : decode cX0_isFigure 9 = .ok (.if_icmp .gt 7, 3) := by decide +kernel
theorem dX0_isFigure_12 : decode cX0_isFigure 12 = .ok (.iconst 1, 1) := by decide +kernel
theorem dX0_isFigure_13 : decode cX0_isFigure 13 = .ok (.goto 4, 3) := by decide +kernel
theorem dX0_isFigure_16 : decode cX0_isFigure 16 = .ok (.iconst 0, 1) := by decide +kernel
theorem dX0_isFigure_17 : decode cX0_isFigure 17 = .ok (.ireturn, 1) := by decide +kernel
set_option maxRecDepth 20000 in
theorem ggX0_figuresAt_X1_letterAt : GoodIn wsX0_figuresAt wsX1_letterAt := goodIn_r _ [5, 6, 7, 12, 13] (by decide +kernel) (by decide +kernel)
set_option maxRecDepth 20000 in
theorem gX0_figuresAt_X1_letterAt : GoodIn wsX0_figuresAt (wsV RX0 58 RX1 yX1_letterAt wsX1_letterAt) := goodIn_app (goodIn_of _ (by decide +kernel)) ggX0_figuresAt_X1_letterAt
set_option maxRecDepth 20000 in
theorem ggX0_figuresAt_X0_isFigure : GoodIn wsX0_figuresAt wsX0_isFigure := goodIn_r _ [11] (by decide +kernel) (by decide +kernel)
set_option maxRecDepth 20000 in
theorem gX0_figuresAt_X0_isFigure : GoodIn wsX0_figuresAt (va_wsS RX0 76 yX0_isFigure wsX0_isFigure) := goodIn_app (goodIn_of _ (by decide +kernel)) ggX0_figuresAt_X0_isFigure
theorem dX0_figuresAt_0 : decode cX0_figuresAt 0 = .ok (.aload_n 0, 1) := by decide +kernel
theorem dX0_figuresAt_1 : decode cX0_figuresAt 1 = .ok (.iload_n 1, 1) := by decide +kernel
theorem dX0_figuresAt_2 : decode cX0_figuresAt 2 = .ok (.invokevirtual 58, 3) := by decide +kernel
theorem dX0_figuresAt_5 : decode cX0_figuresAt 5 = .ok (.invokestatic 76, 3) := by decide +kernel
theorem dX0_figuresAt_8 : decode cX0_figuresAt 8 = .ok (.ifCond .ne 5, 3) := by decide +kernel
theorem dX0_figuresAt_11 : decode cX0_figuresAt 11 = .ok (.iconst 0, 1) := by decide +kernel
theorem dX0_figuresAt_12 : decode cX0_figuresAt 12 = .ok (.ireturn, 1) := by decide +kernel
theorem dX0_figuresAt_13 : decode cX0_figuresAt 13 = .ok (.aload_n 0, 1) := by decide +kernel
theorem dX0_figuresAt_14 : decode cX0_figuresAt 14 = .ok (.iload_n 1, 1) := by decide +kernel
theorem dX0_figuresAt_15 : decode cX0_figuresAt 15 = .ok (.iconst 1, 1) := by decide +kernel
theorem dX0_figuresAt_16 : decode cX0_figuresAt 16 = .ok (.iadd, 1) := by decide +kernel
theorem dX0_figuresAt_17 : decode cX0_figuresAt 17 = .ok (.invokevirtual 58, 3) := by decide +kernel
theorem dX0_figuresAt_20 : decode cX0_figuresAt 20 = .ok (.invokestatic 76, 3) := by decide +kernel
theorem dX0_figuresAt_23 : decode cX0_figuresAt 23 = .ok (.ifCond .eq 7, 3) := by decide +kernel
theorem dX0_figuresAt_26 : decode cX0_figuresAt 26 = .ok (.iconst 2, 1) := by decide +kernel
theorem dX0_figuresAt_27 : decode cX0_figuresAt 27 = .ok (.goto 4, 3) := by decide +kernel
theorem dX0_figuresAt_30 : decode cX0_figuresAt 30 = .ok (.iconst 1, 1) := by decide +kernel
theorem dX0_figuresAt_31 : decode cX0_figuresAt 31 = .ok (.ireturn, 1) := by decide +kernel
set_option maxRecDepth 20000 in
theorem ggX0_numberAt_X1_letterAt : GoodIn wsX0_numberAt wsX1_letterAt := goodIn_r _ [5, 6, 7, 8, 9] (by decide +kernel) (by decide +kernel)
set_option maxRecDepth 20000 in
theorem gX0_numberAt_X1_letterAt : GoodIn wsX0_numberAt (wsV RX0 58 RX1 yX1_letterAt wsX1_letterAt) := goodIn_app (goodIn_of _ (by decide +kernel)) ggX0_numberAt_X1_letterAt
theorem dX0_numberAt_0 : decode cX0_numberAt 0 = .ok (.aload_n 0, 1) := by decide +kernel
theorem dX0_numberAt_1 : decode cX0_numberAt 1 = .ok (.iload_n 1, 1) := by decide +kernel
theorem dX0_numberAt_2 : decode cX0_numberAt 2 = .ok (.invokevirtual 58, 3) := by decide +kernel
theorem dX0_numberAt_5 : decode cX0_numberAt 5 = .ok (.bipush 48, 2) := by decide +kernel
theorem dX0_numberAt_7 : decode cX0_numberAt 7 = .ok (.isub, 1) := by decide +kernel
theorem dX0_numberAt_8 : decode cX0_numberAt 8 = .ok (.istore_n 3, 1) := by decide +kernel
theorem dX0_numberAt_9 : decode cX0_numberAt 9 = .ok (.iload_n 2, 1) := by decide +kernel
theorem dX0_numberAt_10 : decode cX0_numberAt 10 = .ok (.iconst 2, 1) := by decide +kernel
theorem dX0_numberAt_11 : decode cX0_numberAt 11 = .ok (.if_icmp .ne 21, 3) := by decide +kernel
theorem dX0_numberAt_14 : decode cX0_numberAt 14 = .ok (.iload_n 3, 1) := by decide +kernel
theorem dX0_numberAt_15 : decode cX0_numberAt 15 = .ok (.bipush 10, 2) := by decide +kernel
theorem dX0_numberAt_17 : decode cX0_numberAt 17 = .ok (.imul, 1) := by decide +kernel
theorem dX0_numberAt_18 : decode cX0_numberAt 18 = .ok (.aload_n 0, 1) := by decide +kernel
theorem dX0_numberAt_19 : decode cX0_numberAt 19 = .ok (.iload_n 1, 1) := by decide +kernel
theorem dX0_numberAt_20 : decode cX0_numberAt 20 = .ok (.iconst 1, 1) := by decide +kernel
theorem dX0_numberAt_21 : decode cX0_numberAt 21 = .ok (.iadd, 1) := by decide +kernel
theorem dX0_numberAt_22 : decode cX0_numberAt 22 = .ok (.invokevirtual 58, 3) := by decide +kernel
theorem dX0_numberAt_25 : decode cX0_numberAt 25 = .ok (.iadd, 1) := by decide +kernel
theorem dX0_numberAt_26 : decode cX0_numberAt 26 = .ok (.bipush 48, 2) := by decide +kernel
theorem dX0_numberAt_28 : decode cX0_numberAt 28 = .ok (.isub, 1) := by decide +kernel
theorem dX0_numberAt_29 : decode cX0_numberAt 29 = .ok (.goto 4, 3) := by decide +kernel
theorem dX0_numberAt_32 : decode cX0_numberAt 32 = .ok (.iload_n 3, 1) := by decide +kernel
theorem dX0_numberAt_33 : decode cX0_numberAt 33 = .ok (.ireturn, 1) := by decide +kernel
set_option maxRecDepth 20000 in
theorem ggX0_takeItem_X0_takePiece : GoodIn wsX0_takeItem wsX0_takePiece := goodIn_r _ [5, 6, 7, 8, 9, 10, 30, 31, 32, 33, 34, 35, 36, 37, 38, 39, 40, 41] (by decide +kernel) (by decide +kernel)
set_option maxRecDepth 20000 in
theorem gX0_takeItem_X0_takePiece : GoodIn wsX0_takeItem (wsV RX0 79 RX0 yX0_takePiece wsX0_takePiece) := goodIn_app (goodIn_of _ (by decide +kernel)) ggX0_takeItem_X0_takePiece
set_option maxRecDepth 20000 in
theorem ggX0_takeItem_X0_takeDeed : GoodIn wsX0_takeItem wsX0_takeDeed := goodIn_r _ [14, 15, 7, 16, 17, 18, 19, 30, 31, 32, 33, 34, 35, 36, 37, 38, 39, 40, 41] (by decide +kernel) (by decide +kernel)
set_option maxRecDepth 20000 in
theorem gX0_takeItem_X0_takeDeed : GoodIn wsX0_takeItem (wsV RX0 83 RX0 yX0_takeDeed wsX0_takeDeed) := goodIn_app (goodIn_of _ (by decide +kernel)) ggX0_takeItem_X0_takeDeed
set_option maxRecDepth 20000 in
theorem ggX0_takeItem_X0_takeCoins : GoodIn wsX0_takeItem wsX0_takeCoins := goodIn_r _ [23, 7, 24, 30, 31, 32, 33, 34, 35, 36, 37, 38, 39, 40, 41] (by decide +kernel) (by decide +kernel)
set_option maxRecDepth 20000 in
theorem gX0_takeItem_X0_takeCoins : GoodIn wsX0_takeItem (wsV RX0 86 RX0 yX0_takeCoins wsX0_takeCoins) := goodIn_app (goodIn_of _ (by decide +kernel)) ggX0_takeItem_X0_takeCoins
set_option maxRecDepth 20000 in
theorem ggX0_takeItem_X0_takeLaw : GoodIn wsX0_takeItem wsX0_takeLaw := goodIn_r _ [28, 7, 29, 30, 31, 32, 33, 34, 35, 36, 37, 38, 39, 40, 41] (by decide +kernel) (by decide +kernel)
set_option maxRecDepth 20000 in
theorem gX0_takeItem_X0_takeLaw : GoodIn wsX0_takeItem (wsV RX0 89 RX0 yX0_takeLaw wsX0_takeLaw) := goodIn_app (goodIn_of _ (by decide +kernel)) ggX0_takeItem_X0_takeLaw
theorem dX0_takeItem_0 : decode cX0_takeItem 0 = .ok (.iload_n 1, 1) := by decide +kernel
theorem dX0_takeItem_1 : decode cX0_takeItem 1 = .ok (.lookupswitch 63 #[(100, 48), (108, 58), (109, 53), (112, 43)], 43) := by decide +kernel
theorem dX0_takeItem_44 : decode cX0_takeItem 44 = .ok (.aload_n 0, 1) := by decide +kernel
theorem dX0_takeItem_45 : decode cX0_takeItem 45 = .ok (.invokevirtual 79, 3) := by decide +kernel
theorem dX0_takeItem_48 : decode cX0_takeItem 48 = .ok (.ireturn, 1) := by decide +kernel
theorem dX0_takeItem_49 : decode cX0_takeItem 49 = .ok (.aload_n 0, 1) := by decide +kernel
theorem dX0_takeItem_50 : decode cX0_takeItem 50 = .ok (.invokevirtual 83, 3) := by decide +kernel
theorem dX0_takeItem_53 : decode cX0_takeItem 53 = .ok (.ireturn, 1) := by decide +kernel
theorem dX0_takeItem_54 : decode cX0_takeItem 54 = .ok (.aload_n 0, 1) := by decide +kernel
theorem dX0_takeItem_55 : decode cX0_takeItem 55 = .ok (.invokevirtual 86, 3) := by decide +kernel
theorem dX0_takeItem_58 : decode cX0_takeItem 58 = .ok (.ireturn, 1) := by decide +kernel
theorem dX0_takeItem_59 : decode cX0_takeItem 59 = .ok (.aload_n 0, 1) := by decide +kernel
theorem dX0_takeItem_60 : decode cX0_takeItem 60 = .ok (.invokevirtual 89, 3) := by decide +kernel
theorem dX0_takeItem_63 : decode cX0_takeItem 63 = .ok (.ireturn, 1) := by decide +kernel
theorem dX0_takeItem_64 : decode cX0_takeItem 64 = .ok (.iconst 0, 1) := by decide +kernel
theorem dX0_takeItem_65 : decode cX0_takeItem 65 = .ok (.ireturn, 1) := by decide +kernel
theorem dX0_takePiece_0 : decode cX0_takePiece 0 = .ok (.aload_n 0, 1) := by decide +kernel
theorem dX0_takePiece_1 : decode cX0_takePiece 1 = .ok (.getfield 33, 3) := by decide +kernel
theorem dX0_takePiece_4 : decode cX0_takePiece 4 = .ok (.bipush 8, 2) := by decide +kernel
theorem dX0_takePiece_6 : decode cX0_takePiece 6 = .ok (.if_icmp .ge 34, 3) := by decide +kernel
theorem dX0_takePiece_9 : decode cX0_takePiece 9 = .ok (.aload_n 0, 1) := by decide +kernel
theorem dX0_takePiece_10 : decode cX0_takePiece 10 = .ok (.getfield 30, 3) := by decide +kernel
theorem dX0_takePiece_13 : decode cX0_takePiece 13 = .ok (.iconst 0, 1) := by decide +kernel
theorem dX0_takePiece_14 : decode cX0_takePiece 14 = .ok (.iaload, 1) := by decide +kernel
theorem dX0_takePiece_15 : decode cX0_takePiece 15 = .ok (.iconst 4, 1) := by decide +kernel
theorem dX0_takePiece_16 : decode cX0_takePiece 16 = .ok (.if_icmp .ge 24, 3) := by decide +kernel
theorem dX0_takePiece_19 : decode cX0_takePiece 19 = .ok (.aload_n 0, 1) := by decide +kernel
theorem dX0_takePiece_20 : decode cX0_takePiece 20 = .ok (.getfield 30, 3) := by decide +kernel
theorem dX0_takePiece_23 : decode cX0_takePiece 23 = .ok (.iconst 1, 1) := by decide +kernel
theorem dX0_takePiece_24 : decode cX0_takePiece 24 = .ok (.iaload, 1) := by decide +kernel
theorem dX0_takePiece_25 : decode cX0_takePiece 25 = .ok (.iconst 4, 1) := by decide +kernel
theorem dX0_takePiece_26 : decode cX0_takePiece 26 = .ok (.if_icmp .ge 14, 3) := by decide +kernel
theorem dX0_takePiece_29 : decode cX0_takePiece 29 = .ok (.aload_n 0, 1) := by decide +kernel
theorem dX0_takePiece_30 : decode cX0_takePiece 30 = .ok (.getfield 30, 3) := by decide +kernel
theorem dX0_takePiece_33 : decode cX0_takePiece 33 = .ok (.iconst 2, 1) := by decide +kernel
theorem dX0_takePiece_34 : decode cX0_takePiece 34 = .ok (.iaload, 1) := by decide +kernel
theorem dX0_takePiece_35 : decode cX0_takePiece 35 = .ok (.bipush 60, 2) := by decide +kernel
theorem dX0_takePiece_37 : decode cX0_takePiece 37 = .ok (.if_icmp .le 5, 3) := by decide +kernel
theorem dX0_takePiece_40 : decode cX0_takePiece 40 = .ok (.iconst 0, 1) := by decide +kernel
theorem dX0_takePiece_41 : decode cX0_takePiece 41 = .ok (.ireturn, 1) := by decide +kernel
theorem dX0_takePiece_42 : decode cX0_takePiece 42 = .ok (.aload_n 0, 1) := by decide +kernel
theorem dX0_takePiece_43 : decode cX0_takePiece 43 = .ok (.getfield 9, 3) := by decide +kernel
theorem dX0_takePiece_46 : decode cX0_takePiece 46 = .ok (.aload_n 0, 1) := by decide +kernel
theorem dX0_takePiece_47 : decode cX0_takePiece 47 = .ok (.getfield 33, 3) := by decide +kernel
theorem dX0_takePiece_50 : decode cX0_takePiece 50 = .ok (.aload_n 0, 1) := by decide +kernel
theorem dX0_takePiece_51 : decode cX0_takePiece 51 = .ok (.getfield 30, 3) := by decide +kernel
theorem dX0_takePiece_54 : decode cX0_takePiece 54 = .ok (.iconst 0, 1) := by decide +kernel
theorem dX0_takePiece_55 : decode cX0_takePiece 55 = .ok (.iaload, 1) := by decide +kernel
theorem dX0_takePiece_56 : decode cX0_takePiece 56 = .ok (.iastore, 1) := by decide +kernel
theorem dX0_takePiece_57 : decode cX0_takePiece 57 = .ok (.aload_n 0, 1) := by decide +kernel
theorem dX0_takePiece_58 : decode cX0_takePiece 58 = .ok (.dup, 1) := by decide +kernel
theorem dX0_takePiece_59 : decode cX0_takePiece 59 = .ok (.getfield 40, 3) := by decide +kernel
theorem dX0_takePiece_62 : decode cX0_takePiece 62 = .ok (.aload_n 0, 1) := by decide +kernel
theorem dX0_takePiece_63 : decode cX0_takePiece 63 = .ok (.getfield 30, 3) := by decide +kernel
theorem dX0_takePiece_66 : decode cX0_takePiece 66 = .ok (.iconst 1, 1) := by decide +kernel
theorem dX0_takePiece_67 : decode cX0_takePiece 67 = .ok (.iaload, 1) := by decide +kernel
theorem dX0_takePiece_68 : decode cX0_takePiece 68 = .ok (.iconst 2, 1) := by decide +kernel
theorem dX0_takePiece_69 : decode cX0_takePiece 69 = .ok (.aload_n 0, 1) := by decide +kernel
theorem dX0_takePiece_70 : decode cX0_takePiece 70 = .ok (.getfield 33, 3) := by decide +kernel
theorem dX0_takePiece_73 : decode cX0_takePiece 73 = .ok (.imul, 1) := by decide +kernel
theorem dX0_takePiece_74 : decode cX0_takePiece 74 = .ok (.ishl, 1) := by decide +kernel
theorem dX0_takePiece_75 : decode cX0_takePiece 75 = .ok (.ior, 1) := by decide +kernel
theorem dX0_takePiece_76 : decode cX0_takePiece 76 = .ok (.putfield 40, 3) := by decide +kernel
theorem dX0_takePiece_79 : decode cX0_takePiece 79 = .ok (.aload_n 0, 1) := by decide +kernel
theorem dX0_takePiece_80 : decode cX0_takePiece 80 = .ok (.getfield 15, 3) := by decide +kernel
theorem dX0_takePiece_83 : decode cX0_takePiece 83 = .ok (.aload_n 0, 1) := by decide +kernel
theorem dX0_takePiece_84 : decode cX0_takePiece 84 = .ok (.getfield 33, 3) := by decide +kernel
theorem dX0_takePiece_87 : decode cX0_takePiece 87 = .ok (.aload_n 0, 1) := by decide +kernel
theorem dX0_takePiece_88 : decode cX0_takePiece 88 = .ok (.getfield 30, 3) := by decide +kernel
theorem dX0_takePiece_91 : decode cX0_takePiece 91 = .ok (.iconst 2, 1) := by decide +kernel
theorem dX0_takePiece_92 : decode cX0_takePiece 92 = .ok (.iaload, 1) := by decide +kernel
theorem dX0_takePiece_93 : decode cX0_takePiece 93 = .ok (.iastore, 1) := by decide +kernel
theorem dX0_takePiece_94 : decode cX0_takePiece 94 = .ok (.aload_n 0, 1) := by decide +kernel
theorem dX0_takePiece_95 : decode cX0_takePiece 95 = .ok (.dup, 1) := by decide +kernel
theorem dX0_takePiece_96 : decode cX0_takePiece 96 = .ok (.getfield 33, 3) := by decide +kernel
theorem dX0_takePiece_99 : decode cX0_takePiece 99 = .ok (.iconst 1, 1) := by decide +kernel
theorem dX0_takePiece_100 : decode cX0_takePiece 100 = .ok (.iadd, 1) := by decide +kernel
theorem dX0_takePiece_101 : decode cX0_takePiece 101 = .ok (.putfield 33, 3) := by decide +kernel
theorem dX0_takePiece_104 : decode cX0_takePiece 104 = .ok (.iconst 1, 1) := by decide +kernel
theorem dX0_takePiece_105 : decode cX0_takePiece 105 = .ok (.ireturn, 1) := by decide +kernel
theorem dX0_takeDeed_0 : decode cX0_takeDeed 0 = .ok (.aload_n 0, 1) := by decide +kernel
theorem dX0_takeDeed_1 : decode cX0_takeDeed 1 = .ok (.getfield 37, 3) := by decide +kernel
theorem dX0_takeDeed_4 : decode cX0_takeDeed 4 = .ok (.bipush 9, 2) := by decide +kernel
theorem dX0_takeDeed_6 : decode cX0_takeDeed 6 = .ok (.if_icmp .ge 56, 3) := by decide +kernel
theorem dX0_takeDeed_9 : decode cX0_takeDeed 9 = .ok (.aload_n 0, 1) := by decide +kernel
theorem dX0_takeDeed_10 : decode cX0_takeDeed 10 = .ok (.getfield 30, 3) := by decide +kernel
theorem dX0_takeDeed_13 : decode cX0_takeDeed 13 = .ok (.iconst 0, 1) := by decide +kernel
theorem dX0_takeDeed_14 : decode cX0_takeDeed 14 = .ok (.iaload, 1) := by decide +kernel
theorem dX0_takeDeed_15 : decode cX0_takeDeed 15 = .ok (.bipush 6, 2) := by decide +kernel
theorem dX0_takeDeed_17 : decode cX0_takeDeed 17 = .ok (.if_icmp .ge 45, 3) := by decide +kernel
theorem dX0_takeDeed_20 : decode cX0_takeDeed 20 = .ok (.aload_n 0, 1) := by decide +kernel
theorem dX0_takeDeed_21 : decode cX0_takeDeed 21 = .ok (.getfield 30, 3) := by decide +kernel
theorem dX0_takeDeed_24 : decode cX0_takeDeed 24 = .ok (.iconst 1, 1) := by decide +kernel
theorem dX0_takeDeed_25 : decode cX0_takeDeed 25 = .ok (.iaload, 1) := by decide +kernel
theorem dX0_takeDeed_26 : decode cX0_takeDeed 26 = .ok (.iconst 4, 1) := by decide +kernel
theorem dX0_takeDeed_27 : decode cX0_takeDeed 27 = .ok (.if_icmp .ge 35, 3) := by decide +kernel
theorem dX0_takeDeed_30 : decode cX0_takeDeed 30 = .ok (.aload_n 0, 1) := by decide +kernel
theorem dX0_takeDeed_31 : decode cX0_takeDeed 31 = .ok (.getfield 30, 3) := by decide +kernel
theorem dX0_takeDeed_34 : decode cX0_takeDeed 34 = .ok (.iconst 2, 1) := by decide +kernel
theorem dX0_takeDeed_35 : decode cX0_takeDeed 35 = .ok (.iaload, 1) := by decide +kernel
theorem dX0_takeDeed_36 : decode cX0_takeDeed 36 = .ok (.bipush 24, 2) := by decide +kernel
theorem dX0_takeDeed_38 : decode cX0_takeDeed 38 = .ok (.if_icmp .ge 24, 3) := by decide +kernel
theorem dX0_takeDeed_41 : decode cX0_takeDeed 41 = .ok (.aload_n 0, 1) := by decide +kernel
theorem dX0_takeDeed_42 : decode cX0_takeDeed 42 = .ok (.getfield 30, 3) := by decide +kernel
theorem dX0_takeDeed_45 : decode cX0_takeDeed 45 = .ok (.iconst 3, 1) := by decide +kernel
theorem dX0_takeDeed_46 : decode cX0_takeDeed 46 = .ok (.iaload, 1) := by decide +kernel
theorem dX0_takeDeed_47 : decode cX0_takeDeed 47 = .ok (.iconst 1, 1) := by decide +kernel
theorem dX0_takeDeed_48 : decode cX0_takeDeed 48 = .ok (.if_icmp .lt 14, 3) := by decide +kernel
theorem dX0_takeDeed_51 : decode cX0_takeDeed 51 = .ok (.aload_n 0, 1) := by decide +kernel
theorem dX0_takeDeed_52 : decode cX0_takeDeed 52 = .ok (.getfield 30, 3) := by decide +kernel
theorem dX0_takeDeed_55 : decode cX0_takeDeed 55 = .ok (.iconst 3, 1) := by decide +kernel
theorem dX0_takeDeed_56 : decode cX0_takeDeed 56 = .ok (.iaload, 1) := by decide +kernel
theorem dX0_takeDeed_57 : decode cX0_takeDeed 57 = .ok (.bipush 30, 2) := by decide +kernel
theorem dX0_takeDeed_59 : decode cX0_takeDeed 59 = .ok (.if_icmp .le 5, 3) := by decide +kernel
theorem dX0_takeDeed_62 : decode cX0_takeDeed 62 = .ok (.iconst 0, 1) := by decide +kernel
theorem dX0_takeDeed_63 : decode cX0_takeDeed 63 = .ok (.ireturn, 1) := by decide +kernel
theorem dX0_takeDeed_64 : decode cX0_takeDeed 64 = .ok (.aload_n 0, 1) := by decide +kernel
theorem dX0_takeDeed_65 : decode cX0_takeDeed 65 = .ok (.getfield 18, 3) := by decide +kernel
theorem dX0_takeDeed_68 : decode cX0_takeDeed 68 = .ok (.aload_n 0, 1) := by decide +kernel
theorem dX0_takeDeed_69 : decode cX0_takeDeed 69 = .ok (.getfield 37, 3) := by decide +kernel
theorem dX0_takeDeed_72 : decode cX0_takeDeed 72 = .ok (.aload_n 0, 1) := by decide +kernel
theorem dX0_takeDeed_73 : decode cX0_takeDeed 73 = .ok (.getfield 30, 3) := by decide +kernel
theorem dX0_takeDeed_76 : decode cX0_takeDeed 76 = .ok (.iconst 0, 1) := by decide +kernel
theorem dX0_takeDeed_77 : decode cX0_takeDeed 77 = .ok (.iaload, 1) := by decide +kernel
theorem dX0_takeDeed_78 : decode cX0_takeDeed 78 = .ok (.iastore, 1) := by decide +kernel
theorem dX0_takeDeed_79 : decode cX0_takeDeed 79 = .ok (.aload_n 0, 1) := by decide +kernel
theorem dX0_takeDeed_80 : decode cX0_takeDeed 80 = .ok (.getfield 21, 3) := by decide +kernel
theorem dX0_takeDeed_83 : decode cX0_takeDeed 83 = .ok (.aload_n 0, 1) := by decide +kernel
theorem dX0_takeDeed_84 : decode cX0_takeDeed 84 = .ok (.getfield 37, 3) := by decide +kernel
theorem dX0_takeDeed_87 : decode cX0_takeDeed 87 = .ok (.aload_n 0, 1) := by decide +kernel
theorem dX0_takeDeed_88 : decode cX0_takeDeed 88 = .ok (.getfield 30, 3) := by decide +kernel
theorem dX0_takeDeed_91 : decode cX0_takeDeed 91 = .ok (.iconst 1, 1) := by decide +kernel
theorem dX0_takeDeed_92 : decode cX0_takeDeed 92 = .ok (.iaload, 1) := by decide +kernel
theorem dX0_takeDeed_93 : decode cX0_takeDeed 93 = .ok (.iastore, 1) := by decide +kernel
theorem dX0_takeDeed_94 : decode cX0_takeDeed 94 = .ok (.aload_n 0, 1) := by decide +kernel
theorem dX0_takeDeed_95 : decode cX0_takeDeed 95 = .ok (.getfield 24, 3) := by decide +kernel
theorem dX0_takeDeed_98 : decode cX0_takeDeed 98 = .ok (.aload_n 0, 1) := by decide +kernel
theorem dX0_takeDeed_99 : decode cX0_takeDeed 99 = .ok (.getfield 37, 3) := by decide +kernel
theorem dX0_takeDeed_102 : decode cX0_takeDeed 102 = .ok (.aload_n 0, 1) := by decide +kernel
theorem dX0_takeDeed_103 : decode cX0_takeDeed 103 = .ok (.getfield 30, 3) := by decide +kernel
theorem dX0_takeDeed_106 : decode cX0_takeDeed 106 = .ok (.iconst 2, 1) := by decide +kernel
theorem dX0_takeDeed_107 : decode cX0_takeDeed 107 = .ok (.iaload, 1) := by decide +kernel
theorem dX0_takeDeed_108 : decode cX0_takeDeed 108 = .ok (.iastore, 1) := by decide +kernel
theorem dX0_takeDeed_109 : decode cX0_takeDeed 109 = .ok (.aload_n 0, 1) := by decide +kernel
theorem dX0_takeDeed_110 : decode cX0_takeDeed 110 = .ok (.getfield 27, 3) := by decide +kernel
theorem dX0_takeDeed_113 : decode cX0_takeDeed 113 = .ok (.aload_n 0, 1) := by decide +kernel
theorem dX0_takeDeed_114 : decode cX0_takeDeed 114 = .ok (.getfield 37, 3) := by decide +kernel
theorem dX0_takeDeed_117 : decode cX0_takeDeed 117 = .ok (.aload_n 0, 1) := by decide +kernel
theorem dX0_takeDeed_118 : decode cX0_takeDeed 118 = .ok (.getfield 30, 3) := by decide +kernel
theorem dX0_takeDeed_121 : decode cX0_takeDeed 121 = .ok (.iconst 3, 1) := by decide +kernel
theorem dX0_takeDeed_122 : decode cX0_takeDeed 122 = .ok (.iaload, 1) := by decide +kernel
theorem dX0_takeDeed_123 : decode cX0_takeDeed 123 = .ok (.iastore, 1) := by decide +kernel
theorem dX0_takeDeed_124 : decode cX0_takeDeed 124 = .ok (.aload_n 0, 1) := by decide +kernel
theorem dX0_takeDeed_125 : decode cX0_takeDeed 125 = .ok (.dup, 1) := by decide +kernel
theorem dX0_takeDeed_126 : decode cX0_takeDeed 126 = .ok (.getfield 37, 3) := by decide +kernel
theorem dX0_takeDeed_129 : decode cX0_takeDeed 129 = .ok (.iconst 1, 1) := by decide +kernel
theorem dX0_takeDeed_130 : decode cX0_takeDeed 130 = .ok (.iadd, 1) := by decide +kernel
theorem dX0_takeDeed_131 : decode cX0_takeDeed 131 = .ok (.putfield 37, 3) := by decide +kernel
theorem dX0_takeDeed_134 : decode cX0_takeDeed 134 = .ok (.iconst 1, 1) := by decide +kernel
theorem dX0_takeDeed_135 : decode cX0_takeDeed 135 = .ok (.ireturn, 1) := by decide +kernel
theorem dX0_takeCoins_0 : decode cX0_takeCoins 0 = .ok (.aload_n 0, 1) := by decide +kernel
theorem dX0_takeCoins_1 : decode cX0_takeCoins 1 = .ok (.aload_n 0, 1) := by decide +kernel
theorem dX0_takeCoins_2 : decode cX0_takeCoins 2 = .ok (.getfield 30, 3) := by decide +kernel
theorem dX0_takeCoins_5 : decode cX0_takeCoins 5 = .ok (.iconst 0, 1) := by decide +kernel
theorem dX0_takeCoins_6 : decode cX0_takeCoins 6 = .ok (.iaload, 1) := by decide +kernel
theorem dX0_takeCoins_7 : decode cX0_takeCoins 7 = .ok (.putfield 46, 3) := by decide +kernel
theorem dX0_takeCoins_10 : decode cX0_takeCoins 10 = .ok (.iconst 1, 1) := by decide +kernel
theorem dX0_takeCoins_11 : decode cX0_takeCoins 11 = .ok (.ireturn, 1) := by decide +kernel
theorem dX0_takeLaw_0 : decode cX0_takeLaw 0 = .ok (.aload_n 0, 1) := by decide +kernel
theorem dX0_takeLaw_1 : decode cX0_takeLaw 1 = .ok (.getfield 30, 3) := by decide +kernel
theorem dX0_takeLaw_4 : decode cX0_takeLaw 4 = .ok (.iconst 0, 1) := by decide +kernel
theorem dX0_takeLaw_5 : decode cX0_takeLaw 5 = .ok (.iaload, 1) := by decide +kernel
theorem dX0_takeLaw_6 : decode cX0_takeLaw 6 = .ok (.iconst 4, 1) := by decide +kernel
theorem dX0_takeLaw_7 : decode cX0_takeLaw 7 = .ok (.if_icmp .lt 5, 3) := by decide +kernel
theorem dX0_takeLaw_10 : decode cX0_takeLaw 10 = .ok (.iconst 0, 1) := by decide +kernel
theorem dX0_takeLaw_11 : decode cX0_takeLaw 11 = .ok (.ireturn, 1) := by decide +kernel
theorem dX0_takeLaw_12 : decode cX0_takeLaw 12 = .ok (.aload_n 0, 1) := by decide +kernel
theorem dX0_takeLaw_13 : decode cX0_takeLaw 13 = .ok (.dup, 1) := by decide +kernel
theorem dX0_takeLaw_14 : decode cX0_takeLaw 14 = .ok (.getfield 43, 3) := by decide +kernel
theorem dX0_takeLaw_17 : decode cX0_takeLaw 17 = .ok (.iconst 1, 1) := by decide +kernel
theorem dX0_takeLaw_18 : decode cX0_takeLaw 18 = .ok (.aload_n 0, 1) := by decide +kernel
theorem dX0_takeLaw_19 : decode cX0_takeLaw 19 = .ok (.getfield 30, 3) := by decide +kernel
theorem dX0_takeLaw_22 : decode cX0_takeLaw 22 = .ok (.iconst 0, 1) := by decide +kernel
theorem dX0_takeLaw_23 : decode cX0_takeLaw 23 = .ok (.iaload, 1) := by decide +kernel
theorem dX0_takeLaw_24 : decode cX0_takeLaw 24 = .ok (.ishl, 1) := by decide +kernel
theorem dX0_takeLaw_25 : decode cX0_takeLaw 25 = .ok (.ior, 1) := by decide +kernel
theorem dX0_takeLaw_26 : decode cX0_takeLaw 26 = .ok (.putfield 43, 3) := by decide +kernel
theorem dX0_takeLaw_29 : decode cX0_takeLaw 29 = .ok (.iconst 1, 1) := by decide +kernel
theorem dX0_takeLaw_30 : decode cX0_takeLaw 30 = .ok (.ireturn, 1) := by decide +kernel
theorem dX0_forbids_0 : decode cX0_forbids 0 = .ok (.aload_n 0, 1) := by decide +kernel
theorem dX0_forbids_1 : decode cX0_forbids 1 = .ok (.getfield 43, 3) := by decide +kernel
theorem dX0_forbids_4 : decode cX0_forbids 4 = .ok (.iload_n 1, 1) := by decide +kernel
theorem dX0_forbids_5 : decode cX0_forbids 5 = .ok (.ishr, 1) := by decide +kernel
theorem dX0_forbids_6 : decode cX0_forbids 6 = .ok (.iconst 1, 1) := by decide +kernel
theorem dX0_forbids_7 : decode cX0_forbids 7 = .ok (.iand, 1) := by decide +kernel
theorem dX0_forbids_8 : decode cX0_forbids 8 = .ok (.iconst 1, 1) := by decide +kernel
theorem dX0_forbids_9 : decode cX0_forbids 9 = .ok (.if_icmp .ne 7, 3) := by decide +kernel
theorem dX0_forbids_12 : decode cX0_forbids 12 = .ok (.iconst 1, 1) := by decide +kernel
theorem dX0_forbids_13 : decode cX0_forbids 13 = .ok (.goto 4, 3) := by decide +kernel
theorem dX0_forbids_16 : decode cX0_forbids 16 = .ok (.iconst 0, 1) := by decide +kernel
theorem dX0_forbids_17 : decode cX0_forbids 17 = .ok (.ireturn, 1) := by decide +kernel
set_option maxRecDepth 20000 in
theorem ggX0_toldBy_X0_wouldTell : GoodIn wsX0_toldBy wsX0_wouldTell := goodIn_r _ [10, 11, 12, 13, 9, 14, 1, 4, 2, 15, 16, 17, 18, 19, 20, 21, 22, 23, 24, 25, 26] (by decide +kernel) (by decide +kernel)
set_option maxRecDepth 20000 in
theorem gX0_toldBy_X0_wouldTell : GoodIn wsX0_toldBy (wsV RX0 92 RX0 yX0_wouldTell wsX0_wouldTell) := goodIn_app (goodIn_of _ (by decide +kernel)) ggX0_toldBy_X0_wouldTell
theorem dX0_toldBy_0 : decode cX0_toldBy 0 = .ok (.iconst 0, 1) := by decide +kernel
theorem dX0_toldBy_1 : decode cX0_toldBy 1 = .ok (.istore_n 3, 1) := by decide +kernel
theorem dX0_toldBy_2 : decode cX0_toldBy 2 = .ok (.iconst 0, 1) := by decide +kernel
theorem dX0_toldBy_3 : decode cX0_toldBy 3 = .ok (.istore 4, 2) := by decide +kernel
theorem dX0_toldBy_5 : decode cX0_toldBy 5 = .ok (.iload 4, 2) := by decide +kernel
theorem dX0_toldBy_7 : decode cX0_toldBy 7 = .ok (.aload_n 0, 1) := by decide +kernel
theorem dX0_toldBy_8 : decode cX0_toldBy 8 = .ok (.getfield 37, 3) := by decide +kernel
theorem dX0_toldBy_11 : decode cX0_toldBy 11 = .ok (.if_icmp .ge 57, 3) := by decide +kernel
theorem dX0_toldBy_14 : decode cX0_toldBy 14 = .ok (.aload_n 0, 1) := by decide +kernel
theorem dX0_toldBy_15 : decode cX0_toldBy 15 = .ok (.getfield 21, 3) := by decide +kernel
theorem dX0_toldBy_18 : decode cX0_toldBy 18 = .ok (.iload 4, 2) := by decide +kernel
theorem dX0_toldBy_20 : decode cX0_toldBy 20 = .ok (.iaload, 1) := by decide +kernel
theorem dX0_toldBy_21 : decode cX0_toldBy 21 = .ok (.iload_n 2, 1) := by decide +kernel
theorem dX0_toldBy_22 : decode cX0_toldBy 22 = .ok (.if_icmp .ne 40, 3) := by decide +kernel
theorem dX0_toldBy_25 : decode cX0_toldBy 25 = .ok (.aload_n 0, 1) := by decide +kernel
theorem dX0_toldBy_26 : decode cX0_toldBy 26 = .ok (.aload_n 0, 1) := by decide +kernel
theorem dX0_toldBy_27 : decode cX0_toldBy 27 = .ok (.getfield 9, 3) := by decide +kernel
theorem dX0_toldBy_30 : decode cX0_toldBy 30 = .ok (.iload_n 1, 1) := by decide +kernel
theorem dX0_toldBy_31 : decode cX0_toldBy 31 = .ok (.iaload, 1) := by decide +kernel
theorem dX0_toldBy_32 : decode cX0_toldBy 32 = .ok (.iload_n 2, 1) := by decide +kernel
theorem dX0_toldBy_33 : decode cX0_toldBy 33 = .ok (.iload 4, 2) := by decide +kernel
theorem dX0_toldBy_35 : decode cX0_toldBy 35 = .ok (.aload_n 0, 1) := by decide +kernel
theorem dX0_toldBy_36 : decode cX0_toldBy 36 = .ok (.getfield 24, 3) := by decide +kernel
theorem dX0_toldBy_39 : decode cX0_toldBy 39 = .ok (.iload 4, 2) := by decide +kernel
theorem dX0_toldBy_41 : decode cX0_toldBy 41 = .ok (.iaload, 1) := by decide +kernel
theorem dX0_toldBy_42 : decode cX0_toldBy 42 = .ok (.aload_n 0, 1) := by decide +kernel
theorem dX0_toldBy_43 : decode cX0_toldBy 43 = .ok (.getfield 27, 3) := by decide +kernel
theorem dX0_toldBy_46 : decode cX0_toldBy 46 = .ok (.iload 4, 2) := by decide +kernel
theorem dX0_toldBy_48 : decode cX0_toldBy 48 = .ok (.iaload, 1) := by decide +kernel
theorem dX0_toldBy_49 : decode cX0_toldBy 49 = .ok (.invokevirtual 92, 3) := by decide +kernel
theorem dX0_toldBy_52 : decode cX0_toldBy 52 = .ok (.ifCond .eq 10, 3) := by decide +kernel
theorem dX0_toldBy_55 : decode cX0_toldBy 55 = .ok (.iload_n 3, 1) := by decide +kernel
theorem dX0_toldBy_56 : decode cX0_toldBy 56 = .ok (.iconst 1, 1) := by decide +kernel
theorem dX0_toldBy_57 : decode cX0_toldBy 57 = .ok (.iload 4, 2) := by decide +kernel
theorem dX0_toldBy_59 : decode cX0_toldBy 59 = .ok (.ishl, 1) := by decide +kernel
theorem dX0_toldBy_60 : decode cX0_toldBy 60 = .ok (.ior, 1) := by decide +kernel
theorem dX0_toldBy_61 : decode cX0_toldBy 61 = .ok (.istore_n 3, 1) := by decide +kernel
theorem dX0_toldBy_62 : decode cX0_toldBy 62 = .ok (.iinc 4 1, 3) := by decide +kernel
theorem dX0_toldBy_65 : decode cX0_toldBy 65 = .ok (.goto (-60), 3) := by decide +kernel
theorem dX0_toldBy_68 : decode cX0_toldBy 68 = .ok (.iload_n 3, 1) := by decide +kernel
theorem dX0_toldBy_69 : decode cX0_toldBy 69 = .ok (.ireturn, 1) := by decide +kernel
set_option maxRecDepth 20000 in
theorem ggX0_wouldTell_X0_laterOnes : GoodIn wsX0_wouldTell wsX0_laterOnes := goodIn_r _ [5, 6, 7, 8, 9, 10, 11, 12, 13, 14, 15, 16, 17, 18, 19, 20] (by decide +kernel) (by decide +kernel)
set_option maxRecDepth 20000 in
theorem gX0_wouldTell_X0_laterOnes : GoodIn wsX0_wouldTell (wsV RX0 96 RX0 yX0_laterOnes wsX0_laterOnes) := goodIn_app (goodIn_of _ (by decide +kernel)) ggX0_wouldTell_X0_laterOnes
theorem dX0_wouldTell_0 : decode cX0_wouldTell 0 = .ok (.iload_n 1, 1) := by decide +kernel
theorem dX0_wouldTell_1 : decode cX0_wouldTell 1 = .ok (.tableswitch 84 0 3 #[31, 33, 46, 64], 31) := by decide +kernel
theorem dX0_wouldTell_32 : decode cX0_wouldTell 32 = .ok (.iconst 1, 1) := by decide +kernel
theorem dX0_wouldTell_33 : decode cX0_wouldTell 33 = .ok (.ireturn, 1) := by decide +kernel
theorem dX0_wouldTell_34 : decode cX0_wouldTell 34 = .ok (.iload 4, 2) := by decide +kernel
theorem dX0_wouldTell_36 : decode cX0_wouldTell 36 = .ok (.bipush 12, 2) := by decide +kernel
theorem dX0_wouldTell_38 : decode cX0_wouldTell 38 = .ok (.if_icmp .lt 7, 3) := by decide +kernel
theorem dX0_wouldTell_41 : decode cX0_wouldTell 41 = .ok (.iconst 1, 1) := by decide +kernel
theorem dX0_wouldTell_42 : decode cX0_wouldTell 42 = .ok (.goto 4, 3) := by decide +kernel
theorem dX0_wouldTell_45 : decode cX0_wouldTell 45 = .ok (.iconst 0, 1) := by decide +kernel
theorem dX0_wouldTell_46 : decode cX0_wouldTell 46 = .ok (.ireturn, 1) := by decide +kernel
theorem dX0_wouldTell_47 : decode cX0_wouldTell 47 = .ok (.aload_n 0, 1) := by decide +kernel
theorem dX0_wouldTell_48 : decode cX0_wouldTell 48 = .ok (.iload_n 2, 1) := by decide +kernel
theorem dX0_wouldTell_49 : decode cX0_wouldTell 49 = .ok (.iload_n 3, 1) := by decide +kernel
theorem dX0_wouldTell_50 : decode cX0_wouldTell 50 = .ok (.iload 4, 2) := by decide +kernel
theorem dX0_wouldTell_52 : decode cX0_wouldTell 52 = .ok (.invokevirtual 96, 3) := by decide +kernel
theorem dX0_wouldTell_55 : decode cX0_wouldTell 55 = .ok (.iconst 2, 1) := by decide +kernel
theorem dX0_wouldTell_56 : decode cX0_wouldTell 56 = .ok (.if_icmp .ge 7, 3) := by decide +kernel
theorem dX0_wouldTell_59 : decode cX0_wouldTell 59 = .ok (.iconst 1, 1) := by decide +kernel
theorem dX0_wouldTell_60 : decode cX0_wouldTell 60 = .ok (.goto 4, 3) := by decide +kernel
theorem dX0_wouldTell_63 : decode cX0_wouldTell 63 = .ok (.iconst 0, 1) := by decide +kernel
theorem dX0_wouldTell_64 : decode cX0_wouldTell 64 = .ok (.ireturn, 1) := by decide +kernel
theorem dX0_wouldTell_65 : decode cX0_wouldTell 65 = .ok (.iload 4, 2) := by decide +kernel
theorem dX0_wouldTell_67 : decode cX0_wouldTell 67 = .ok (.bipush 12, 2) := by decide +kernel
theorem dX0_wouldTell_69 : decode cX0_wouldTell 69 = .ok (.if_icmp .ge 14, 3) := by decide +kernel
theorem dX0_wouldTell_72 : decode cX0_wouldTell 72 = .ok (.iload 5, 2) := by decide +kernel
theorem dX0_wouldTell_74 : decode cX0_wouldTell 74 = .ok (.bipush 10, 2) := by decide +kernel
theorem dX0_wouldTell_76 : decode cX0_wouldTell 76 = .ok (.if_icmp .gt 7, 3) := by decide +kernel
theorem dX0_wouldTell_79 : decode cX0_wouldTell 79 = .ok (.iconst 1, 1) := by decide +kernel
theorem dX0_wouldTell_80 : decode cX0_wouldTell 80 = .ok (.goto 4, 3) := by decide +kernel
theorem dX0_wouldTell_83 : decode cX0_wouldTell 83 = .ok (.iconst 0, 1) := by decide +kernel
theorem dX0_wouldTell_84 : decode cX0_wouldTell 84 = .ok (.ireturn, 1) := by decide +kernel
theorem dX0_wouldTell_85 : decode cX0_wouldTell 85 = .ok (.iconst 0, 1) := by decide +kernel
theorem dX0_wouldTell_86 : decode cX0_wouldTell 86 = .ok (.ireturn, 1) := by decide +kernel
theorem dX0_laterOnes_0 : decode cX0_laterOnes 0 = .ok (.iconst 0, 1) := by decide +kernel
theorem dX0_laterOnes_1 : decode cX0_laterOnes 1 = .ok (.istore 4, 2) := by decide +kernel
theorem dX0_laterOnes_3 : decode cX0_laterOnes 3 = .ok (.iconst 0, 1) := by decide +kernel
theorem dX0_laterOnes_4 : decode cX0_laterOnes 4 = .ok (.istore 5, 2) := by decide +kernel
theorem dX0_laterOnes_6 : decode cX0_laterOnes 6 = .ok (.iload 5, 2) := by decide +kernel
theorem dX0_laterOnes_8 : decode cX0_laterOnes 8 = .ok (.aload_n 0, 1) := by decide +kernel
theorem dX0_laterOnes_9 : decode cX0_laterOnes 9 = .ok (.getfield 37, 3) := by decide +kernel
theorem dX0_laterOnes_12 : decode cX0_laterOnes 12 = .ok (.if_icmp .ge 69, 3) := by decide +kernel
theorem dX0_laterOnes_15 : decode cX0_laterOnes 15 = .ok (.aload_n 0, 1) := by decide +kernel
theorem dX0_laterOnes_16 : decode cX0_laterOnes 16 = .ok (.getfield 24, 3) := by decide +kernel
theorem dX0_laterOnes_19 : decode cX0_laterOnes 19 = .ok (.iload 5, 2) := by decide +kernel
theorem dX0_laterOnes_21 : decode cX0_laterOnes 21 = .ok (.iaload, 1) := by decide +kernel
theorem dX0_laterOnes_22 : decode cX0_laterOnes 22 = .ok (.iload_n 3, 1) := by decide +kernel
theorem dX0_laterOnes_23 : decode cX0_laterOnes 23 = .ok (.if_icmp .gt 20, 3) := by decide +kernel
theorem dX0_laterOnes_26 : decode cX0_laterOnes 26 = .ok (.aload_n 0, 1) := by decide +kernel
theorem dX0_laterOnes_27 : decode cX0_laterOnes 27 = .ok (.getfield 24, 3) := by decide +kernel
theorem dX0_laterOnes_30 : decode cX0_laterOnes 30 = .ok (.iload 5, 2) := by decide +kernel
theorem dX0_laterOnes_32 : decode cX0_laterOnes 32 = .ok (.iaload, 1) := by decide +kernel
theorem dX0_laterOnes_33 : decode cX0_laterOnes 33 = .ok (.iload_n 3, 1) := by decide +kernel
theorem dX0_laterOnes_34 : decode cX0_laterOnes 34 = .ok (.if_icmp .ne 13, 3) := by decide +kernel
theorem dX0_laterOnes_37 : decode cX0_laterOnes 37 = .ok (.iload 5, 2) := by decide +kernel
theorem dX0_laterOnes_39 : decode cX0_laterOnes 39 = .ok (.iload_n 2, 1) := by decide +kernel
theorem dX0_laterOnes_40 : decode cX0_laterOnes 40 = .ok (.if_icmp .le 7, 3) := by decide +kernel
theorem dX0_laterOnes_43 : decode cX0_laterOnes 43 = .ok (.iconst 1, 1) := by decide +kernel
theorem dX0_laterOnes_44 : decode cX0_laterOnes 44 = .ok (.goto 4, 3) := by decide +kernel
theorem dX0_laterOnes_47 : decode cX0_laterOnes 47 = .ok (.iconst 0, 1) := by decide +kernel
theorem dX0_laterOnes_48 : decode cX0_laterOnes 48 = .ok (.istore 6, 2) := by decide +kernel
theorem dX0_laterOnes_50 : decode cX0_laterOnes 50 = .ok (.iload 5, 2) := by decide +kernel
theorem dX0_laterOnes_52 : decode cX0_laterOnes 52 = .ok (.iload_n 2, 1) := by decide +kernel
theorem dX0_laterOnes_53 : decode cX0_laterOnes 53 = .ok (.if_icmp .eq 22, 3) := by decide +kernel
theorem dX0_laterOnes_56 : decode cX0_laterOnes 56 = .ok (.aload_n 0, 1) := by decide +kernel
theorem dX0_laterOnes_57 : decode cX0_laterOnes 57 = .ok (.getfield 21, 3) := by decide +kernel
theorem dX0_laterOnes_60 : decode cX0_laterOnes 60 = .ok (.iload 5, 2) := by decide +kernel
theorem dX0_laterOnes_62 : decode cX0_laterOnes 62 = .ok (.iaload, 1) := by decide +kernel
theorem dX0_laterOnes_63 : decode cX0_laterOnes 63 = .ok (.iload_n 1, 1) := by decide +kernel
theorem dX0_laterOnes_64 : decode cX0_laterOnes 64 = .ok (.if_icmp .ne 11, 3) := by decide +kernel
theorem dX0_laterOnes_67 : decode cX0_laterOnes 67 = .ok (.iload 6, 2) := by decide +kernel
theorem dX0_laterOnes_69 : decode cX0_laterOnes 69 = .ok (.ifCond .eq 6, 3) := by decide +kernel
theorem dX0_laterOnes_72 : decode cX0_laterOnes 72 = .ok (.iinc 4 1, 3) := by decide +kernel
theorem dX0_laterOnes_75 : decode cX0_laterOnes 75 = .ok (.iinc 5 1, 3) := by decide +kernel
theorem dX0_laterOnes_78 : decode cX0_laterOnes 78 = .ok (.goto (-72), 3) := by decide +kernel
theorem dX0_laterOnes_81 : decode cX0_laterOnes 81 = .ok (.iload 4, 2) := by decide +kernel
theorem dX0_laterOnes_83 : decode cX0_laterOnes 83 = .ok (.ireturn, 1) := by decide +kernel
theorem dX0_deedsAsHeavyAs_0 : decode cX0_deedsAsHeavyAs 0 = .ok (.iconst 0, 1) := by decide +kernel
theorem dX0_deedsAsHeavyAs_1 : decode cX0_deedsAsHeavyAs 1 = .ok (.istore_n 2, 1) := by decide +kernel
theorem dX0_deedsAsHeavyAs_2 : decode cX0_deedsAsHeavyAs 2 = .ok (.iconst 0, 1) := by decide +kernel
theorem dX0_deedsAsHeavyAs_3 : decode cX0_deedsAsHeavyAs 3 = .ok (.istore_n 3, 1) := by decide +kernel
theorem dX0_deedsAsHeavyAs_4 : decode cX0_deedsAsHeavyAs 4 = .ok (.iload_n 3, 1) := by decide +kernel
theorem dX0_deedsAsHeavyAs_5 : decode cX0_deedsAsHeavyAs 5 = .ok (.aload_n 0, 1) := by decide +kernel
theorem dX0_deedsAsHeavyAs_6 : decode cX0_deedsAsHeavyAs 6 = .ok (.getfield 37, 3) := by decide +kernel
theorem dX0_deedsAsHeavyAs_9 : decode cX0_deedsAsHeavyAs 9 = .ok (.if_icmp .ge 25, 3) := by decide +kernel
theorem dX0_deedsAsHeavyAs_12 : decode cX0_deedsAsHeavyAs 12 = .ok (.aload_n 0, 1) := by decide +kernel
theorem dX0_deedsAsHeavyAs_13 : decode cX0_deedsAsHeavyAs 13 = .ok (.getfield 27, 3) := by decide +kernel
theorem dX0_deedsAsHeavyAs_16 : decode cX0_deedsAsHeavyAs 16 = .ok (.iload_n 3, 1) := by decide +kernel
theorem dX0_deedsAsHeavyAs_17 : decode cX0_deedsAsHeavyAs 17 = .ok (.iaload, 1) := by decide +kernel
theorem dX0_deedsAsHeavyAs_18 : decode cX0_deedsAsHeavyAs 18 = .ok (.iload_n 1, 1) := by decide +kernel
theorem dX0_deedsAsHeavyAs_19 : decode cX0_deedsAsHeavyAs 19 = .ok (.if_icmp .lt 9, 3) := by decide +kernel
theorem dX0_deedsAsHeavyAs_22 : decode cX0_deedsAsHeavyAs 22 = .ok (.iload_n 2, 1) := by decide +kernel
theorem dX0_deedsAsHeavyAs_23 : decode cX0_deedsAsHeavyAs 23 = .ok (.iconst 1, 1) := by decide +kernel
theorem dX0_deedsAsHeavyAs_24 : decode cX0_deedsAsHeavyAs 24 = .ok (.iload_n 3, 1) := by decide +kernel
theorem dX0_deedsAsHeavyAs_25 : decode cX0_deedsAsHeavyAs 25 = .ok (.ishl, 1) := by decide +kernel
theorem dX0_deedsAsHeavyAs_26 : decode cX0_deedsAsHeavyAs 26 = .ok (.ior, 1) := by decide +kernel
theorem dX0_deedsAsHeavyAs_27 : decode cX0_deedsAsHeavyAs 27 = .ok (.istore_n 2, 1) := by decide +kernel
theorem dX0_deedsAsHeavyAs_28 : decode cX0_deedsAsHeavyAs 28 = .ok (.iinc 3 1, 3) := by decide +kernel
theorem dX0_deedsAsHeavyAs_31 : decode cX0_deedsAsHeavyAs 31 = .ok (.goto (-27), 3) := by decide +kernel
theorem dX0_deedsAsHeavyAs_34 : decode cX0_deedsAsHeavyAs 34 = .ok (.iload_n 2, 1) := by decide +kernel
theorem dX0_deedsAsHeavyAs_35 : decode cX0_deedsAsHeavyAs 35 = .ok (.ireturn, 1) := by decide +kernel
theorem dX0_deedsOf_0 : decode cX0_deedsOf 0 = .ok (.iconst 0, 1) := by decide +kernel
theorem dX0_deedsOf_1 : decode cX0_deedsOf 1 = .ok (.istore_n 2, 1) := by decide +kernel
theorem dX0_deedsOf_2 : decode cX0_deedsOf 2 = .ok (.iconst 0, 1) := by decide +kernel
theorem dX0_deedsOf_3 : decode cX0_deedsOf 3 = .ok (.istore_n 3, 1) := by decide +kernel
theorem dX0_deedsOf_4 : decode cX0_deedsOf 4 = .ok (.iload_n 3, 1) := by decide +kernel
theorem dX0_deedsOf_5 : decode cX0_deedsOf 5 = .ok (.aload_n 0, 1) := by decide +kernel
theorem dX0_deedsOf_6 : decode cX0_deedsOf 6 = .ok (.getfield 37, 3) := by decide +kernel
theorem dX0_deedsOf_9 : decode cX0_deedsOf 9 = .ok (.if_icmp .ge 25, 3) := by decide +kernel
theorem dX0_deedsOf_12 : decode cX0_deedsOf 12 = .ok (.aload_n 0, 1) := by decide +kernel
theorem dX0_deedsOf_13 : decode cX0_deedsOf 13 = .ok (.getfield 18, 3) := by decide +kernel
theorem dX0_deedsOf_16 : decode cX0_deedsOf 16 = .ok (.iload_n 3, 1) := by decide +kernel
theorem dX0_deedsOf_17 : decode cX0_deedsOf 17 = .ok (.iaload, 1) := by decide +kernel
theorem dX0_deedsOf_18 : decode cX0_deedsOf 18 = .ok (.iload_n 1, 1) := by decide +kernel
theorem dX0_deedsOf_19 : decode cX0_deedsOf 19 = .ok (.if_icmp .ne 9, 3) := by decide +kernel
theorem dX0_deedsOf_22 : decode cX0_deedsOf 22 = .ok (.iload_n 2, 1) := by decide +kernel
theorem dX0_deedsOf_23 : decode cX0_deedsOf 23 = .ok (.iconst 1, 1) := by decide +kernel
theorem dX0_deedsOf_24 : decode cX0_deedsOf 24 = .ok (.iload_n 3, 1) := by decide +kernel
theorem dX0_deedsOf_25 : decode cX0_deedsOf 25 = .ok (.ishl, 1) := by decide +kernel
theorem dX0_deedsOf_26 : decode cX0_deedsOf 26 = .ok (.ior, 1) := by decide +kernel
theorem dX0_deedsOf_27 : decode cX0_deedsOf 27 = .ok (.istore_n 2, 1) := by decide +kernel
theorem dX0_deedsOf_28 : decode cX0_deedsOf 28 = .ok (.iinc 3 1, 3) := by decide +kernel
theorem dX0_deedsOf_31 : decode cX0_deedsOf 31 = .ok (.goto (-27), 3) := by decide +kernel
theorem dX0_deedsOf_34 : decode cX0_deedsOf 34 = .ok (.iload_n 2, 1) := by decide +kernel
theorem dX0_deedsOf_35 : decode cX0_deedsOf 35 = .ok (.ireturn, 1) := by decide +kernel
theorem dX0_weightOf_0 : decode cX0_weightOf 0 = .ok (.iconst 0, 1) := by decide +kernel
theorem dX0_weightOf_1 : decode cX0_weightOf 1 = .ok (.istore_n 2, 1) := by decide +kernel
theorem dX0_weightOf_2 : decode cX0_weightOf 2 = .ok (.iconst 0, 1) := by decide +kernel
theorem dX0_weightOf_3 : decode cX0_weightOf 3 = .ok (.istore_n 3, 1) := by decide +kernel
theorem dX0_weightOf_4 : decode cX0_weightOf 4 = .ok (.iload_n 3, 1) := by decide +kernel
theorem dX0_weightOf_5 : decode cX0_weightOf 5 = .ok (.aload_n 0, 1) := by decide +kernel
theorem dX0_weightOf_6 : decode cX0_weightOf 6 = .ok (.getfield 37, 3) := by decide +kernel
theorem dX0_weightOf_9 : decode cX0_weightOf 9 = .ok (.if_icmp .ge 27, 3) := by decide +kernel
theorem dX0_weightOf_12 : decode cX0_weightOf 12 = .ok (.iload_n 1, 1) := by decide +kernel
theorem dX0_weightOf_13 : decode cX0_weightOf 13 = .ok (.iload_n 3, 1) := by decide +kernel
theorem dX0_weightOf_14 : decode cX0_weightOf 14 = .ok (.ishr, 1) := by decide +kernel
theorem dX0_weightOf_15 : decode cX0_weightOf 15 = .ok (.iconst 1, 1) := by decide +kernel
theorem dX0_weightOf_16 : decode cX0_weightOf 16 = .ok (.iand, 1) := by decide +kernel
theorem dX0_weightOf_17 : decode cX0_weightOf 17 = .ok (.iconst 1, 1) := by decide +kernel
theorem dX0_weightOf_18 : decode cX0_weightOf 18 = .ok (.if_icmp .ne 12, 3) := by decide +kernel
theorem dX0_weightOf_21 : decode cX0_weightOf 21 = .ok (.iload_n 2, 1) := by decide +kernel
theorem dX0_weightOf_22 : decode cX0_weightOf 22 = .ok (.aload_n 0, 1) := by decide +kernel
theorem dX0_weightOf_23 : decode cX0_weightOf 23 = .ok (.getfield 27, 3) := by decide +kernel
theorem dX0_weightOf_26 : decode cX0_weightOf 26 = .ok (.iload_n 3, 1) := by decide +kernel
theorem dX0_weightOf_27 : decode cX0_weightOf 27 = .ok (.iaload, 1) := by decide +kernel
theorem dX0_weightOf_28 : decode cX0_weightOf 28 = .ok (.iadd, 1) := by decide +kernel
theorem dX0_weightOf_29 : decode cX0_weightOf 29 = .ok (.istore_n 2, 1) := by decide +kernel
theorem dX0_weightOf_30 : decode cX0_weightOf 30 = .ok (.iinc 3 1, 3) := by decide +kernel
theorem dX0_weightOf_33 : decode cX0_weightOf 33 = .ok (.goto (-29), 3) := by decide +kernel
theorem dX0_weightOf_36 : decode cX0_weightOf 36 = .ok (.iload_n 2, 1) := by decide +kernel
theorem dX0_weightOf_37 : decode cX0_weightOf 37 = .ok (.ireturn, 1) := by decide +kernel
theorem dX0_priceOf_0 : decode cX0_priceOf 0 = .ok (.iconst 0, 1) := by decide +kernel
theorem dX0_priceOf_1 : decode cX0_priceOf 1 = .ok (.istore_n 2, 1) := by decide +kernel
theorem dX0_priceOf_2 : decode cX0_priceOf 2 = .ok (.iconst 0, 1) := by decide +kernel
theorem dX0_priceOf_3 : decode cX0_priceOf 3 = .ok (.istore_n 3, 1) := by decide +kernel
theorem dX0_priceOf_4 : decode cX0_priceOf 4 = .ok (.iload_n 3, 1) := by decide +kernel
theorem dX0_priceOf_5 : decode cX0_priceOf 5 = .ok (.aload_n 0, 1) := by decide +kernel
theorem dX0_priceOf_6 : decode cX0_priceOf 6 = .ok (.getfield 33, 3) := by decide +kernel
theorem dX0_priceOf_9 : decode cX0_priceOf 9 = .ok (.if_icmp .ge 27, 3) := by decide +kernel
theorem dX0_priceOf_12 : decode cX0_priceOf 12 = .ok (.iload_n 1, 1) := by decide +kernel
theorem dX0_priceOf_13 : decode cX0_priceOf 13 = .ok (.iload_n 3, 1) := by decide +kernel
theorem dX0_priceOf_14 : decode cX0_priceOf 14 = .ok (.ishr, 1) := by decide +kernel
theorem dX0_priceOf_15 : decode cX0_priceOf 15 = .ok (.iconst 1, 1) := by decide +kernel
theorem dX0_priceOf_16 : decode cX0_priceOf 16 = .ok (.iand, 1) := by decide +kernel
theorem dX0_priceOf_17 : decode cX0_priceOf 17 = .ok (.iconst 1, 1) := by decide +kernel
theorem dX0_priceOf_18 : decode cX0_priceOf 18 = .ok (.if_icmp .ne 12, 3) := by decide +kernel
theorem dX0_priceOf_21 : decode cX0_priceOf 21 = .ok (.iload_n 2, 1) := by decide +kernel
theorem dX0_priceOf_22 : decode cX0_priceOf 22 = .ok (.aload_n 0, 1) := by decide +kernel
theorem dX0_priceOf_23 : decode cX0_priceOf 23 = .ok (.getfield 15, 3) := by decide +kernel
theorem dX0_priceOf_26 : decode cX0_priceOf 26 = .ok (.iload_n 3, 1) := by decide +kernel
theorem dX0_priceOf_27 : decode cX0_priceOf 27 = .ok (.iaload, 1) := by decide +kernel
theorem dX0_priceOf_28 : decode cX0_priceOf 28 = .ok (.iadd, 1) := by decide +kernel
theorem dX0_priceOf_29 : decode cX0_priceOf 29 = .ok (.istore_n 2, 1) := by decide +kernel
theorem dX0_priceOf_30 : decode cX0_priceOf 30 = .ok (.iinc 3 1, 3) := by decide +kernel
theorem dX0_priceOf_33 : decode cX0_priceOf 33 = .ok (.goto (-29), 3) := by decide +kernel
theorem dX0_priceOf_36 : decode cX0_priceOf 36 = .ok (.iload_n 2, 1) := by decide +kernel
theorem dX0_priceOf_37 : decode cX0_priceOf 37 = .ok (.ireturn, 1) := by decide +kernel
theorem dX1_init_0 : decode cX1_init 0 = .ok (.aload_n 0, 1) := by decide +kernel
theorem dX1_init_1 : decode cX1_init 1 = .ok (.invokespecial 3, 3) := by decide +kernel
theorem dX1_init_4 : decode cX1_init 4 = .ok (.aload_n 0, 1) := by decide +kernel
theorem dX1_init_5 : decode cX1_init 5 = .ok (.sipush 200, 3) := by decide +kernel
theorem dX1_init_8 : decode cX1_init 8 = .ok (.newarray .char, 2) := by decide +kernel
theorem dX1_init_10 : decode cX1_init 10 = .ok (.putfield 9, 3) := by decide +kernel
theorem dX1_init_13 : decode cX1_init 13 = .ok (.return_, 1) := by decide +kernel
theorem dX1_add_0 : decode cX1_add 0 = .ok (.aload_n 0, 1) := by decide +kernel
theorem dX1_add_1 : decode cX1_add 1 = .ok (.getfield 15, 3) := by decide +kernel
theorem dX1_add_4 : decode cX1_add 4 = .ok (.aload_n 0, 1) := by decide +kernel
theorem dX1_add_5 : decode cX1_add 5 = .ok (.getfield 9, 3) := by decide +kernel
theorem dX1_add_8 : decode cX1_add 8 = .ok (.arraylength, 1) := by decide +kernel
theorem dX1_add_9 : decode cX1_add 9 = .ok (.if_icmp .lt 5, 3) := by decide +kernel
theorem dX1_add_12 : decode cX1_add 12 = .ok (.iconst 0, 1) := by decide +kernel
theorem dX1_add_13 : decode cX1_add 13 = .ok (.ireturn, 1) := by decide +kernel
theorem dX1_add_14 : decode cX1_add 14 = .ok (.aload_n 0, 1) := by decide +kernel
theorem dX1_add_15 : decode cX1_add 15 = .ok (.getfield 9, 3) := by decide +kernel
theorem dX1_add_18 : decode cX1_add 18 = .ok (.aload_n 0, 1) := by decide +kernel
theorem dX1_add_19 : decode cX1_add 19 = .ok (.getfield 15, 3) := by decide +kernel
theorem dX1_add_22 : decode cX1_add 22 = .ok (.iload_n 1, 1) := by decide +kernel
theorem dX1_add_23 : decode cX1_add 23 = .ok (.castore, 1) := by decide +kernel
theorem dX1_add_24 : decode cX1_add 24 = .ok (.aload_n 0, 1) := by decide +kernel
theorem dX1_add_25 : decode cX1_add 25 = .ok (.dup, 1) := by decide +kernel
theorem dX1_add_26 : decode cX1_add 26 = .ok (.getfield 15, 3) := by decide +kernel
theorem dX1_add_29 : decode cX1_add 29 = .ok (.iconst 1, 1) := by decide +kernel
theorem dX1_add_30 : decode cX1_add 30 = .ok (.iadd, 1) := by decide +kernel
theorem dX1_add_31 : decode cX1_add 31 = .ok (.putfield 15, 3) := by decide +kernel
theorem dX1_add_34 : decode cX1_add 34 = .ok (.iconst 1, 1) := by decide +kernel
theorem dX1_add_35 : decode cX1_add 35 = .ok (.ireturn, 1) := by decide +kernel
theorem dX1_clear_0 : decode cX1_clear 0 = .ok (.aload_n 0, 1) := by decide +kernel
theorem dX1_clear_1 : decode cX1_clear 1 = .ok (.iconst 0, 1) := by decide +kernel
theorem dX1_clear_2 : decode cX1_clear 2 = .ok (.putfield 15, 3) := by decide +kernel
theorem dX1_clear_5 : decode cX1_clear 5 = .ok (.return_, 1) := by decide +kernel
theorem dX1_letterAt_0 : decode cX1_letterAt 0 = .ok (.iload_n 1, 1) := by decide +kernel
theorem dX1_letterAt_1 : decode cX1_letterAt 1 = .ok (.ifCond .lt 20, 3) := by decide +kernel
theorem dX1_letterAt_4 : decode cX1_letterAt 4 = .ok (.iload_n 1, 1) := by decide +kernel
theorem dX1_letterAt_5 : decode cX1_letterAt 5 = .ok (.aload_n 0, 1) := by decide +kernel
theorem dX1_letterAt_6 : decode cX1_letterAt 6 = .ok (.getfield 15, 3) := by decide +kernel
theorem dX1_letterAt_9 : decode cX1_letterAt 9 = .ok (.if_icmp .ge 12, 3) := by decide +kernel
theorem dX1_letterAt_12 : decode cX1_letterAt 12 = .ok (.aload_n 0, 1) := by decide +kernel
theorem dX1_letterAt_13 : decode cX1_letterAt 13 = .ok (.getfield 9, 3) := by decide +kernel
theorem dX1_letterAt_16 : decode cX1_letterAt 16 = .ok (.iload_n 1, 1) := by decide +kernel
theorem dX1_letterAt_17 : decode cX1_letterAt 17 = .ok (.caload, 1) := by decide +kernel
theorem dX1_letterAt_18 : decode cX1_letterAt 18 = .ok (.goto 4, 3) := by decide +kernel
theorem dX1_letterAt_21 : decode cX1_letterAt 21 = .ok (.iconst 0, 1) := by decide +kernel
theorem dX1_letterAt_22 : decode cX1_letterAt 22 = .ok (.ireturn, 1) := by decide +kernel
theorem dX2_init_0 : decode cX2_init 0 = .ok (.aload_n 0, 1) := by decide +kernel
theorem dX2_init_1 : decode cX2_init 1 = .ok (.invokespecial 3, 3) := by decide +kernel
theorem dX2_init_4 : decode cX2_init 4 = .ok (.aload_n 0, 1) := by decide +kernel
theorem dX2_init_5 : decode cX2_init 5 = .ok (.bipush 8, 2) := by decide +kernel
theorem dX2_init_7 : decode cX2_init 7 = .ok (.newarray .long, 2) := by decide +kernel
theorem dX2_init_9 : decode cX2_init 9 = .ok (.putfield 9, 3) := by decide +kernel
theorem dX2_init_12 : decode cX2_init 12 = .ok (.return_, 1) := by decide +kernel
theorem dX2_push_0 : decode cX2_push 0 = .ok (.aload_n 0, 1) := by decide +kernel
theorem dX2_push_1 : decode cX2_push 1 = .ok (.getfield 9, 3) := by decide +kernel
theorem dX2_push_4 : decode cX2_push 4 = .ok (.aload_n 0, 1) := by decide +kernel
theorem dX2_push_5 : decode cX2_push 5 = .ok (.getfield 15, 3) := by decide +kernel
theorem dX2_push_8 : decode cX2_push 8 = .ok (.lload_n 1, 1) := by decide +kernel
theorem dX2_push_9 : decode cX2_push 9 = .ok (.lastore, 1) := by decide +kernel
theorem dX2_push_10 : decode cX2_push 10 = .ok (.aload_n 0, 1) := by decide +kernel
theorem dX2_push_11 : decode cX2_push 11 = .ok (.aload_n 0, 1) := by decide +kernel
theorem dX2_push_12 : decode cX2_push 12 = .ok (.getfield 15, 3) := by decide +kernel
theorem dX2_push_15 : decode cX2_push 15 = .ok (.iconst 1, 1) := by decide +kernel
theorem dX2_push_16 : decode cX2_push 16 = .ok (.iadd, 1) := by decide +kernel
theorem dX2_push_17 : decode cX2_push 17 = .ok (.bipush 8, 2) := by decide +kernel
theorem dX2_push_19 : decode cX2_push 19 = .ok (.if_icmp .ge 12, 3) := by decide +kernel
theorem dX2_push_22 : decode cX2_push 22 = .ok (.aload_n 0, 1) := by decide +kernel
theorem dX2_push_23 : decode cX2_push 23 = .ok (.getfield 15, 3) := by decide +kernel
theorem dX2_push_26 : decode cX2_push 26 = .ok (.iconst 1, 1) := by decide +kernel
theorem dX2_push_27 : decode cX2_push 27 = .ok (.iadd, 1) := by decide +kernel
theorem dX2_push_28 : decode cX2_push 28 = .ok (.goto 4, 3) := by decide +kernel
theorem dX2_push_31 : decode cX2_push 31 = .ok (.iconst 0, 1) := by decide +kernel
theorem dX2_push_32 : decode cX2_push 32 = .ok (.putfield 15, 3) := by decide +kernel
theorem dX2_push_35 : decode cX2_push 35 = .ok (.aload_n 0, 1) := by decide +kernel
theorem dX2_push_36 : decode cX2_push 36 = .ok (.aload_n 0, 1) := by decide +kernel
theorem dX2_push_37 : decode cX2_push 37 = .ok (.getfield 19, 3) := by decide +kernel
theorem dX2_push_40 : decode cX2_push 40 = .ok (.iconst 1, 1) := by decide +kernel
theorem dX2_push_41 : decode cX2_push 41 = .ok (.iadd, 1) := by decide +kernel
theorem dX2_push_42 : decode cX2_push 42 = .ok (.bipush 8, 2) := by decide +kernel
theorem dX2_push_44 : decode cX2_push 44 = .ok (.invokestatic 22, 3) := by decide +kernel
theorem dX2_push_47 : decode cX2_push 47 = .ok (.putfield 19, 3) := by decide +kernel
theorem dX2_push_50 : decode cX2_push 50 = .ok (.return_, 1) := by decide +kernel
theorem dX2_pop_0 : decode cX2_pop 0 = .ok (.aload_n 0, 1) := by decide +kernel
theorem dX2_pop_1 : decode cX2_pop 1 = .ok (.aload_n 0, 1) := by decide +kernel
theorem dX2_pop_2 : decode cX2_pop 2 = .ok (.getfield 15, 3) := by decide +kernel
theorem dX2_pop_5 : decode cX2_pop 5 = .ok (.ifCond .le 12, 3) := by decide +kernel
theorem dX2_pop_8 : decode cX2_pop 8 = .ok (.aload_n 0, 1) := by decide +kernel
theorem dX2_pop_9 : decode cX2_pop 9 = .ok (.getfield 15, 3) := by decide +kernel
theorem dX2_pop_12 : decode cX2_pop 12 = .ok (.iconst 1, 1) := by decide +kernel
theorem dX2_pop_13 : decode cX2_pop 13 = .ok (.isub, 1) := by decide +kernel
theorem dX2_pop_14 : decode cX2_pop 14 = .ok (.goto 5, 3) := by decide +kernel
theorem dX2_pop_17 : decode cX2_pop 17 = .ok (.bipush 7, 2) := by decide +kernel
theorem dX2_pop_19 : decode cX2_pop 19 = .ok (.putfield 15, 3) := by decide +kernel
theorem dX2_pop_22 : decode cX2_pop 22 = .ok (.aload_n 0, 1) := by decide +kernel
theorem dX2_pop_23 : decode cX2_pop 23 = .ok (.aload_n 0, 1) := by decide +kernel
theorem dX2_pop_24 : decode cX2_pop 24 = .ok (.getfield 19, 3) := by decide +kernel
theorem dX2_pop_27 : decode cX2_pop 27 = .ok (.iconst 1, 1) := by decide +kernel
theorem dX2_pop_28 : decode cX2_pop 28 = .ok (.isub, 1) := by decide +kernel
theorem dX2_pop_29 : decode cX2_pop 29 = .ok (.iconst 0, 1) := by decide +kernel
theorem dX2_pop_30 : decode cX2_pop 30 = .ok (.invokestatic 28, 3) := by decide +kernel
theorem dX2_pop_33 : decode cX2_pop 33 = .ok (.putfield 19, 3) := by decide +kernel
theorem dX2_pop_36 : decode cX2_pop 36 = .ok (.aload_n 0, 1) := by decide +kernel
theorem dX2_pop_37 : decode cX2_pop 37 = .ok (.getfield 9, 3) := by decide +kernel
theorem dX2_pop_40 : decode cX2_pop 40 = .ok (.aload_n 0, 1) := by decide +kernel
theorem dX2_pop_41 : decode cX2_pop 41 = .ok (.getfield 15, 3) := by decide +kernel
theorem dX2_pop_44 : decode cX2_pop 44 = .ok (.laload, 1) := by decide +kernel
theorem dX2_pop_45 : decode cX2_pop 45 = .ok (.lreturn, 1) := by decide +kernel
theorem dX2_clear_0 : decode cX2_clear 0 = .ok (.aload_n 0, 1) := by decide +kernel
theorem dX2_clear_1 : decode cX2_clear 1 = .ok (.iconst 0, 1) := by decide +kernel
theorem dX2_clear_2 : decode cX2_clear 2 = .ok (.putfield 19, 3) := by decide +kernel
theorem dX2_clear_5 : decode cX2_clear 5 = .ok (.return_, 1) := by decide +kernel
theorem dX3_init_0 : decode cX3_init 0 = .ok (.aload_n 0, 1) := by decide +kernel
theorem dX3_init_1 : decode cX3_init 1 = .ok (.invokespecial 3, 3) := by decide +kernel
theorem dX3_init_4 : decode cX3_init 4 = .ok (.aload_n 0, 1) := by decide +kernel
theorem dX3_init_5 : decode cX3_init 5 = .ok (.bipush 6, 2) := by decide +kernel
theorem dX3_init_7 : decode cX3_init 7 = .ok (.newarray .int, 2) := by decide +kernel
theorem dX3_init_9 : decode cX3_init 9 = .ok (.putfield 9, 3) := by decide +kernel
theorem dX3_init_12 : decode cX3_init 12 = .ok (.aload_n 0, 1) := by decide +kernel
theorem dX3_init_13 : decode cX3_init 13 = .ok (.bipush 6, 2) := by decide +kernel
theorem dX3_init_15 : decode cX3_init 15 = .ok (.newarray .int, 2) := by decide +kernel
theorem dX3_init_17 : decode cX3_init 17 = .ok (.putfield 15, 3) := by decide +kernel
theorem dX3_init_20 : decode cX3_init 20 = .ok (.aload_n 0, 1) := by decide +kernel
theorem dX3_init_21 : decode cX3_init 21 = .ok (.bipush 6, 2) := by decide +kernel
theorem dX3_init_23 : decode cX3_init 23 = .ok (.newarray .boolean, 2) := by decide +kernel
theorem dX3_init_25 : decode cX3_init 25 = .ok (.putfield 18, 3) := by decide +kernel
theorem dX3_init_28 : decode cX3_init 28 = .ok (.return_, 1) := by decide +kernel
theorem dX3_add_0 : decode cX3_add 0 = .ok (.aload_n 0, 1) := by decide +kernel
theorem dX3_add_1 : decode cX3_add 1 = .ok (.getfield 22, 3) := by decide +kernel
theorem dX3_add_4 : decode cX3_add 4 = .ok (.bipush 6, 2) := by decide +kernel
theorem dX3_add_6 : decode cX3_add 6 = .ok (.if_icmp .lt 5, 3) := by decide +kernel
theorem dX3_add_9 : decode cX3_add 9 = .ok (.iconst 0, 1) := by decide +kernel
theorem dX3_add_10 : decode cX3_add 10 = .ok (.ireturn, 1) := by decide +kernel
theorem dX3_add_11 : decode cX3_add 11 = .ok (.aload_n 0, 1) := by decide +kernel
theorem dX3_add_12 : decode cX3_add 12 = .ok (.getfield 9, 3) := by decide +kernel
theorem dX3_add_15 : decode cX3_add 15 = .ok (.aload_n 0, 1) := by decide +kernel
theorem dX3_add_16 : decode cX3_add 16 = .ok (.getfield 22, 3) := by decide +kernel
theorem dX3_add_19 : decode cX3_add 19 = .ok (.iload_n 1, 1) := by decide +kernel
theorem dX3_add_20 : decode cX3_add 20 = .ok (.iastore, 1) := by decide +kernel
theorem dX3_add_21 : decode cX3_add 21 = .ok (.aload_n 0, 1) := by decide +kernel
theorem dX3_add_22 : decode cX3_add 22 = .ok (.getfield 15, 3) := by decide +kernel
theorem dX3_add_25 : decode cX3_add 25 = .ok (.aload_n 0, 1) := by decide +kernel
theorem dX3_add_26 : decode cX3_add 26 = .ok (.getfield 22, 3) := by decide +kernel
theorem dX3_add_29 : decode cX3_add 29 = .ok (.iload_n 2, 1) := by decide +kernel
theorem dX3_add_30 : decode cX3_add 30 = .ok (.iastore, 1) := by decide +kernel
theorem dX3_add_31 : decode cX3_add 31 = .ok (.aload_n 0, 1) := by decide +kernel
theorem dX3_add_32 : decode cX3_add 32 = .ok (.getfield 18, 3) := by decide +kernel
theorem dX3_add_35 : decode cX3_add 35 = .ok (.aload_n 0, 1) := by decide +kernel
theorem dX3_add_36 : decode cX3_add 36 = .ok (.getfield 22, 3) := by decide +kernel
theorem dX3_add_39 : decode cX3_add 39 = .ok (.iload_n 3, 1) := by decide +kernel
theorem dX3_add_40 : decode cX3_add 40 = .ok (.bastore, 1) := by decide +kernel
theorem dX3_add_41 : decode cX3_add 41 = .ok (.aload_n 0, 1) := by decide +kernel
theorem dX3_add_42 : decode cX3_add 42 = .ok (.dup, 1) := by decide +kernel
theorem dX3_add_43 : decode cX3_add 43 = .ok (.getfield 22, 3) := by decide +kernel
theorem dX3_add_46 : decode cX3_add 46 = .ok (.iconst 1, 1) := by decide +kernel
theorem dX3_add_47 : decode cX3_add 47 = .ok (.iadd, 1) := by decide +kernel
theorem dX3_add_48 : decode cX3_add 48 = .ok (.putfield 22, 3) := by decide +kernel
theorem dX3_add_51 : decode cX3_add 51 = .ok (.iconst 1, 1) := by decide +kernel
theorem dX3_add_52 : decode cX3_add 52 = .ok (.ireturn, 1) := by decide +kernel
theorem dX3_clear_0 : decode cX3_clear 0 = .ok (.aload_n 0, 1) := by decide +kernel
theorem dX3_clear_1 : decode cX3_clear 1 = .ok (.iconst 0, 1) := by decide +kernel
theorem dX3_clear_2 : decode cX3_clear 2 = .ok (.putfield 22, 3) := by decide +kernel
theorem dX3_clear_5 : decode cX3_clear 5 = .ok (.return_, 1) := by decide +kernel
theorem dX4_init_0 : decode cX4_init 0 = .ok (.aload_n 0, 1) := by decide +kernel
theorem dX4_init_1 : decode cX4_init 1 = .ok (.invokespecial 3, 3) := by decide +kernel
theorem dX4_init_4 : decode cX4_init 4 = .ok (.return_, 1) := by decide +kernel
theorem dX4_begin_0 : decode cX4_begin 0 = .ok (.aload_n 0, 1) := by decide +kernel
theorem dX4_begin_1 : decode cX4_begin 1 = .ok (.iload_n 1, 1) := by decide +kernel
theorem dX4_begin_2 : decode cX4_begin 2 = .ok (.putfield 9, 3) := by decide +kernel
theorem dX4_begin_5 : decode cX4_begin 5 = .ok (.aload_n 0, 1) := by decide +kernel
theorem dX4_begin_6 : decode cX4_begin 6 = .ok (.iconst 0, 1) := by decide +kernel
theorem dX4_begin_7 : decode cX4_begin 7 = .ok (.putfield 15, 3) := by decide +kernel
theorem dX4_begin_10 : decode cX4_begin 10 = .ok (.aload_n 0, 1) := by decide +kernel
theorem dX4_begin_11 : decode cX4_begin 11 = .ok (.iconst 0, 1) := by decide +kernel
theorem dX4_begin_12 : decode cX4_begin 12 = .ok (.putfield 18, 3) := by decide +kernel
theorem dX4_begin_15 : decode cX4_begin 15 = .ok (.aload_n 0, 1) := by decide +kernel
theorem dX4_begin_16 : decode cX4_begin 16 = .ok (.iconst 0, 1) := by decide +kernel
theorem dX4_begin_17 : decode cX4_begin 17 = .ok (.putfield 21, 3) := by decide +kernel
theorem dX4_begin_20 : decode cX4_begin 20 = .ok (.aload_n 0, 1) := by decide +kernel
theorem dX4_begin_21 : decode cX4_begin 21 = .ok (.iload_n 2, 1) := by decide +kernel
theorem dX4_begin_22 : decode cX4_begin 22 = .ok (.putfield 24, 3) := by decide +kernel
theorem dX4_begin_25 : decode cX4_begin 25 = .ok (.return_, 1) := by decide +kernel
theorem dX4_packed_0 : decode cX4_packed 0 = .ok (.aload_n 0, 1) := by decide +kernel
theorem dX4_packed_1 : decode cX4_packed 1 = .ok (.getfield 24, 3) := by decide +kernel
theorem dX4_packed_4 : decode cX4_packed 4 = .ok (.i2l, 1) := by decide +kernel
theorem dX4_packed_5 : decode cX4_packed 5 = .ok (.bipush 48, 2) := by decide +kernel
theorem dX4_packed_7 : decode cX4_packed 7 = .ok (.lshl, 1) := by decide +kernel
theorem dX4_packed_8 : decode cX4_packed 8 = .ok (.aload_n 0, 1) := by decide +kernel
theorem dX4_packed_9 : decode cX4_packed 9 = .ok (.getfield 21, 3) := by decide +kernel
theorem dX4_packed_12 : decode cX4_packed 12 = .ok (.i2l, 1) := by decide +kernel
theorem dX4_packed_13 : decode cX4_packed 13 = .ok (.bipush 32, 2) := by decide +kernel
theorem dX4_packed_15 : decode cX4_packed 15 = .ok (.lshl, 1) := by decide +kernel
theorem dX4_packed_16 : decode cX4_packed 16 = .ok (.lor, 1) := by decide +kernel
theorem dX4_packed_17 : decode cX4_packed 17 = .ok (.aload_n 0, 1) := by decide +kernel
theorem dX4_packed_18 : decode cX4_packed 18 = .ok (.getfield 18, 3) := by decide +kernel
theorem dX4_packed_21 : decode cX4_packed 21 = .ok (.i2l, 1) := by decide +kernel
theorem dX4_packed_22 : decode cX4_packed 22 = .ok (.bipush 24, 2) := by decide +kernel
theorem dX4_packed_24 : decode cX4_packed 24 = .ok (.lshl, 1) := by decide +kernel
theorem dX4_packed_25 : decode cX4_packed 25 = .ok (.lor, 1) := by decide +kernel
theorem dX4_packed_26 : decode cX4_packed 26 = .ok (.aload_n 0, 1) := by decide +kernel
theorem dX4_packed_27 : decode cX4_packed 27 = .ok (.getfield 15, 3) := by decide +kernel
theorem dX4_packed_30 : decode cX4_packed 30 = .ok (.i2l, 1) := by decide +kernel
theorem dX4_packed_31 : decode cX4_packed 31 = .ok (.bipush 16, 2) := by decide +kernel
theorem dX4_packed_33 : decode cX4_packed 33 = .ok (.lshl, 1) := by decide +kernel
theorem dX4_packed_34 : decode cX4_packed 34 = .ok (.lor, 1) := by decide +kernel
theorem dX4_packed_35 : decode cX4_packed 35 = .ok (.aload_n 0, 1) := by decide +kernel
theorem dX4_packed_36 : decode cX4_packed 36 = .ok (.getfield 9, 3) := by decide +kernel
theorem dX4_packed_39 : decode cX4_packed 39 = .ok (.i2l, 1) := by decide +kernel
theorem dX4_packed_40 : decode cX4_packed 40 = .ok (.lor, 1) := by decide +kernel
theorem dX4_packed_41 : decode cX4_packed 41 = .ok (.lreturn, 1) := by decide +kernel
theorem dX4_unpack_0 : decode cX4_unpack 0 = .ok (.aload_n 0, 1) := by decide +kernel
theorem dX4_unpack_1 : decode cX4_unpack 1 = .ok (.lload_n 1, 1) := by decide +kernel
theorem dX4_unpack_2 : decode cX4_unpack 2 = .ok (.ldc2_w 27, 3) := by decide +kernel
theorem dX4_unpack_5 : decode cX4_unpack 5 = .ok (.land, 1) := by decide +kernel
theorem dX4_unpack_6 : decode cX4_unpack 6 = .ok (.l2i, 1) := by decide +kernel
theorem dX4_unpack_7 : decode cX4_unpack 7 = .ok (.putfield 9, 3) := by decide +kernel
theorem dX4_unpack_10 : decode cX4_unpack 10 = .ok (.aload_n 0, 1) := by decide +kernel
theorem dX4_unpack_11 : decode cX4_unpack 11 = .ok (.lload_n 1, 1) := by decide +kernel
theorem dX4_unpack_12 : decode cX4_unpack 12 = .ok (.bipush 16, 2) := by decide +kernel
theorem dX4_unpack_14 : decode cX4_unpack 14 = .ok (.lshr, 1) := by decide +kernel
theorem dX4_unpack_15 : decode cX4_unpack 15 = .ok (.ldc2_w 29, 3) := by decide +kernel
theorem dX4_unpack_18 : decode cX4_unpack 18 = .ok (.land, 1) := by decide +kernel
theorem dX4_unpack_19 : decode cX4_unpack 19 = .ok (.l2i, 1) := by decide +kernel
theorem dX4_unpack_20 : decode cX4_unpack 20 = .ok (.putfield 15, 3) := by decide +kernel
theorem dX4_unpack_23 : decode cX4_unpack 23 = .ok (.aload_n 0, 1) := by decide +kernel
theorem dX4_unpack_24 : decode cX4_unpack 24 = .ok (.lload_n 1, 1) := by decide +kernel
theorem dX4_unpack_25 : decode cX4_unpack 25 = .ok (.bipush 24, 2) := by decide +kernel
theorem dX4_unpack_27 : decode cX4_unpack 27 = .ok (.lshr, 1) := by decide +kernel
theorem dX4_unpack_28 : decode cX4_unpack 28 = .ok (.ldc2_w 29, 3) := by decide +kernel
theorem dX4_unpack_31 : decode cX4_unpack 31 = .ok (.land, 1) := by decide +kernel
theorem dX4_unpack_32 : decode cX4_unpack 32 = .ok (.l2i, 1) := by decide +kernel
theorem dX4_unpack_33 : decode cX4_unpack 33 = .ok (.putfield 18, 3) := by decide +kernel
theorem dX4_unpack_36 : decode cX4_unpack 36 = .ok (.aload_n 0, 1) := by decide +kernel
theorem dX4_unpack_37 : decode cX4_unpack 37 = .ok (.lload_n 1, 1) := by decide +kernel
theorem dX4_unpack_38 : decode cX4_unpack 38 = .ok (.bipush 32, 2) := by decide +kernel
theorem dX4_unpack_40 : decode cX4_unpack 40 = .ok (.lshr, 1) := by decide +kernel
theorem dX4_unpack_41 : decode cX4_unpack 41 = .ok (.ldc2_w 27, 3) := by decide +kernel
theorem dX4_unpack_44 : decode cX4_unpack 44 = .ok (.land, 1) := by decide +kernel
theorem dX4_unpack_45 : decode cX4_unpack 45 = .ok (.l2i, 1) := by decide +kernel
theorem dX4_unpack_46 : decode cX4_unpack 46 = .ok (.putfield 21, 3) := by decide +kernel
theorem dX4_unpack_49 : decode cX4_unpack 49 = .ok (.aload_n 0, 1) := by decide +kernel
theorem dX4_unpack_50 : decode cX4_unpack 50 = .ok (.lload_n 1, 1) := by decide +kernel
theorem dX4_unpack_51 : decode cX4_unpack 51 = .ok (.bipush 48, 2) := by decide +kernel
theorem dX4_unpack_53 : decode cX4_unpack 53 = .ok (.lshr, 1) := by decide +kernel
theorem dX4_unpack_54 : decode cX4_unpack 54 = .ok (.l2i, 1) := by decide +kernel
theorem dX4_unpack_55 : decode cX4_unpack 55 = .ok (.putfield 24, 3) := by decide +kernel
theorem dX4_unpack_58 : decode cX4_unpack 58 = .ok (.return_, 1) := by decide +kernel
theorem dX4_roomOf_0 : decode cX4_roomOf 0 = .ok (.aload_n 0, 1) := by decide +kernel
theorem dX4_roomOf_1 : decode cX4_roomOf 1 = .ok (.getfield 9, 3) := by decide +kernel
theorem dX4_roomOf_4 : decode cX4_roomOf 4 = .ok (.iconst 2, 1) := by decide +kernel
theorem dX4_roomOf_5 : decode cX4_roomOf 5 = .ok (.iload_n 1, 1) := by decide +kernel
theorem dX4_roomOf_6 : decode cX4_roomOf 6 = .ok (.imul, 1) := by decide +kernel
theorem dX4_roomOf_7 : decode cX4_roomOf 7 = .ok (.ishr, 1) := by decide +kernel
theorem dX4_roomOf_8 : decode cX4_roomOf 8 = .ok (.iconst 3, 1) := by decide +kernel
theorem dX4_roomOf_9 : decode cX4_roomOf 9 = .ok (.iand, 1) := by decide +kernel
theorem dX4_roomOf_10 : decode cX4_roomOf 10 = .ok (.ireturn, 1) := by decide +kernel
theorem dX4_howIs_0 : decode cX4_howIs 0 = .ok (.aload_n 0, 1) := by decide +kernel
theorem dX4_howIs_1 : decode cX4_howIs 1 = .ok (.getfield 18, 3) := by decide +kernel
theorem dX4_howIs_4 : decode cX4_howIs 4 = .ok (.iload_n 1, 1) := by decide +kernel
theorem dX4_howIs_5 : decode cX4_howIs 5 = .ok (.ishr, 1) := by decide +kernel
theorem dX4_howIs_6 : decode cX4_howIs 6 = .ok (.iconst 1, 1) := by decide +kernel
theorem dX4_howIs_7 : decode cX4_howIs 7 = .ok (.iand, 1) := by decide +kernel
theorem dX4_howIs_8 : decode cX4_howIs 8 = .ok (.iconst 1, 1) := by decide +kernel
theorem dX4_howIs_9 : decode cX4_howIs 9 = .ok (.if_icmp .ne 5, 3) := by decide +kernel
theorem dX4_howIs_12 : decode cX4_howIs 12 = .ok (.iconst 2, 1) := by decide +kernel
theorem dX4_howIs_13 : decode cX4_howIs 13 = .ok (.ireturn, 1) := by decide +kernel
theorem dX4_howIs_14 : decode cX4_howIs 14 = .ok (.aload_n 0, 1) := by decide +kernel
theorem dX4_howIs_15 : decode cX4_howIs 15 = .ok (.getfield 15, 3) := by decide +kernel
theorem dX4_howIs_18 : decode cX4_howIs 18 = .ok (.iload_n 1, 1) := by decide +kernel
theorem dX4_howIs_19 : decode cX4_howIs 19 = .ok (.ishr, 1) := by decide +kernel
theorem dX4_howIs_20 : decode cX4_howIs 20 = .ok (.iconst 1, 1) := by decide +kernel
theorem dX4_howIs_21 : decode cX4_howIs 21 = .ok (.iand, 1) := by decide +kernel
theorem dX4_howIs_22 : decode cX4_howIs 22 = .ok (.iconst 1, 1) := by decide +kernel
theorem dX4_howIs_23 : decode cX4_howIs 23 = .ok (.if_icmp .ne 7, 3) := by decide +kernel
theorem dX4_howIs_26 : decode cX4_howIs 26 = .ok (.iconst 1, 1) := by decide +kernel
theorem dX4_howIs_27 : decode cX4_howIs 27 = .ok (.goto 4, 3) := by decide +kernel
theorem dX4_howIs_30 : decode cX4_howIs 30 = .ok (.iconst 0, 1) := by decide +kernel
theorem dX4_howIs_31 : decode cX4_howIs 31 = .ok (.ireturn, 1) := by decide +kernel
set_option maxRecDepth 20000 in
theorem ggX4_letSpeak_J6_bitCount_0f7a4 : GoodIn wsX4_letSpeak wsJ6_bitCount_0f7a4 := goodIn_r _ [6, 7, 8, 9] (by decide +kernel) (by decide +kernel)
set_option maxRecDepth 20000 in
theorem gX4_letSpeak_J6_bitCount_0f7a4 : GoodIn wsX4_letSpeak (va_wsS RX4 31 yJ6_bitCount_0f7a4 wsJ6_bitCount_0f7a4) := goodIn_app (goodIn_of _ (by decide +kernel)) ggX4_letSpeak_J6_bitCount_0f7a4
theorem dX4_letSpeak_0 : decode cX4_letSpeak 0 = .ok (.iload_n 2, 1) := by decide +kernel
theorem dX4_letSpeak_1 : decode cX4_letSpeak 1 = .ok (.aload_n 0, 1) := by decide +kernel
theorem dX4_letSpeak_2 : decode cX4_letSpeak 2 = .ok (.getfield 21, 3) := by decide +kernel
theorem dX4_letSpeak_5 : decode cX4_letSpeak 5 = .ok (.iconst (-1), 1) := by decide +kernel
theorem dX4_letSpeak_6 : decode cX4_letSpeak 6 = .ok (.ixor, 1) := by decide +kernel
theorem dX4_letSpeak_7 : decode cX4_letSpeak 7 = .ok (.iand, 1) := by decide +kernel
theorem dX4_letSpeak_8 : decode cX4_letSpeak 8 = .ok (.istore_n 3, 1) := by decide +kernel
theorem dX4_letSpeak_9 : decode cX4_letSpeak 9 = .ok (.aload_n 0, 1) := by decide +kernel
theorem dX4_letSpeak_10 : decode cX4_letSpeak 10 = .ok (.dup, 1) := by decide +kernel
theorem dX4_letSpeak_11 : decode cX4_letSpeak 11 = .ok (.getfield 21, 3) := by decide +kernel
theorem dX4_letSpeak_14 : decode cX4_letSpeak 14 = .ok (.iload_n 2, 1) := by decide +kernel
theorem dX4_letSpeak_15 : decode cX4_letSpeak 15 = .ok (.ior, 1) := by decide +kernel
theorem dX4_letSpeak_16 : decode cX4_letSpeak 16 = .ok (.putfield 21, 3) := by decide +kernel
theorem dX4_letSpeak_19 : decode cX4_letSpeak 19 = .ok (.aload_n 0, 1) := by decide +kernel
theorem dX4_letSpeak_20 : decode cX4_letSpeak 20 = .ok (.dup, 1) := by decide +kernel
theorem dX4_letSpeak_21 : decode cX4_letSpeak 21 = .ok (.getfield 18, 3) := by decide +kernel
theorem dX4_letSpeak_24 : decode cX4_letSpeak 24 = .ok (.iconst 1, 1) := by decide +kernel
theorem dX4_letSpeak_25 : decode cX4_letSpeak 25 = .ok (.iload_n 1, 1) := by decide +kernel
theorem dX4_letSpeak_26 : decode cX4_letSpeak 26 = .ok (.ishl, 1) := by decide +kernel
theorem dX4_letSpeak_27 : decode cX4_letSpeak 27 = .ok (.ior, 1) := by decide +kernel
theorem dX4_letSpeak_28 : decode cX4_letSpeak 28 = .ok (.putfield 18, 3) := by decide +kernel
theorem dX4_letSpeak_31 : decode cX4_letSpeak 31 = .ok (.iload_n 3, 1) := by decide +kernel
theorem dX4_letSpeak_32 : decode cX4_letSpeak 32 = .ok (.invokestatic 31, 3) := by decide +kernel
theorem dX4_letSpeak_35 : decode cX4_letSpeak 35 = .ok (.ireturn, 1) := by decide +kernel
theorem dX4_sell_0 : decode cX4_sell 0 = .ok (.aload_n 0, 1) := by decide +kernel
theorem dX4_sell_1 : decode cX4_sell 1 = .ok (.dup, 1) := by decide +kernel
theorem dX4_sell_2 : decode cX4_sell 2 = .ok (.getfield 15, 3) := by decide +kernel
theorem dX4_sell_5 : decode cX4_sell 5 = .ok (.iconst 1, 1) := by decide +kernel
theorem dX4_sell_6 : decode cX4_sell 6 = .ok (.iload_n 1, 1) := by decide +kernel
theorem dX4_sell_7 : decode cX4_sell 7 = .ok (.ishl, 1) := by decide +kernel
theorem dX4_sell_8 : decode cX4_sell 8 = .ok (.ior, 1) := by decide +kernel
theorem dX4_sell_9 : decode cX4_sell 9 = .ok (.putfield 15, 3) := by decide +kernel
theorem dX4_sell_12 : decode cX4_sell 12 = .ok (.aload_n 0, 1) := by decide +kernel
theorem dX4_sell_13 : decode cX4_sell 13 = .ok (.dup, 1) := by decide +kernel
theorem dX4_sell_14 : decode cX4_sell 14 = .ok (.getfield 24, 3) := by decide +kernel
theorem dX4_sell_17 : decode cX4_sell 17 = .ok (.iload_n 2, 1) := by decide +kernel
theorem dX4_sell_18 : decode cX4_sell 18 = .ok (.isub, 1) := by decide +kernel
theorem dX4_sell_19 : decode cX4_sell 19 = .ok (.putfield 24, 3) := by decide +kernel
theorem dX4_sell_22 : decode cX4_sell 22 = .ok (.return_, 1) := by decide +kernel
theorem dX4_move_0 : decode cX4_move 0 = .ok (.aload_n 0, 1) := by decide +kernel
theorem dX4_move_1 : decode cX4_move 1 = .ok (.aload_n 0, 1) := by decide +kernel
theorem dX4_move_2 : decode cX4_move 2 = .ok (.getfield 9, 3) := by decide +kernel
theorem dX4_move_5 : decode cX4_move 5 = .ok (.iconst 3, 1) := by decide +kernel
theorem dX4_move_6 : decode cX4_move 6 = .ok (.iconst 2, 1) := by decide +kernel
theorem dX4_move_7 : decode cX4_move 7 = .ok (.iload_n 1, 1) := by decide +kernel
theorem dX4_move_8 : decode cX4_move 8 = .ok (.imul, 1) := by decide +kernel
theorem dX4_move_9 : decode cX4_move 9 = .ok (.ishl, 1) := by decide +kernel
theorem dX4_move_10 : decode cX4_move 10 = .ok (.iconst (-1), 1) := by decide +kernel
theorem dX4_move_11 : decode cX4_move 11 = .ok (.ixor, 1) := by decide +kernel
theorem dX4_move_12 : decode cX4_move 12 = .ok (.iand, 1) := by decide +kernel
theorem dX4_move_13 : decode cX4_move 13 = .ok (.iload_n 2, 1) := by decide +kernel
theorem dX4_move_14 : decode cX4_move 14 = .ok (.iconst 2, 1) := by decide +kernel
theorem dX4_move_15 : decode cX4_move 15 = .ok (.iload_n 1, 1) := by decide +kernel
theorem dX4_move_16 : decode cX4_move 16 = .ok (.imul, 1) := by decide +kernel
theorem dX4_move_17 : decode cX4_move 17 = .ok (.ishl, 1) := by decide +kernel
theorem dX4_move_18 : decode cX4_move 18 = .ok (.ior, 1) := by decide +kernel
theorem dX4_move_19 : decode cX4_move 19 = .ok (.putfield 9, 3) := by decide +kernel
theorem dX4_move_22 : decode cX4_move 22 = .ok (.return_, 1) := by decide +kernel
set_option maxRecDepth 20000 in
theorem ggX5_init_X1_init : GoodIn wsX5_init wsX1_init := goodIn_r _ [31, 32, 2, 3, 33, 34, 195, 196] (by decide +kernel) (by decide +kernel)
set_option maxRecDepth 20000 in
theorem gX5_init_X1_init_n9 : GoodIn wsX5_init (wsX1_init) := ggX5_init_X1_init
set_option maxRecDepth 20000 in
theorem ggX5_init_X0_init : GoodIn wsX5_init wsX0_init := goodIn_r _ [36, 37, 2, 3, 28, 38, 39, 40, 41, 42, 43, 44, 207, 208, 209, 210, 211, 212, 213, 214, 215, 216, 217, 218] (by decide +kernel) (by decide +kernel)
set_option maxRecDepth 20000 in
theorem gX5_init_X0_init_n18 : GoodIn wsX5_init (wsX0_init) := ggX5_init_X0_init
set_option maxRecDepth 20000 in
theorem ggX5_init_X4_init : GoodIn wsX5_init wsX4_init := goodIn_r _ [46, 47, 2, 3] (by decide +kernel) (by decide +kernel)
set_option maxRecDepth 20000 in
theorem gX5_init_X4_init_n28 : GoodIn wsX5_init (wsX4_init) := ggX5_init_X4_init
set_option maxRecDepth 20000 in
theorem ggX5_init_X2_init : GoodIn wsX5_init wsX2_init := goodIn_r _ [49, 50, 2, 3, 26, 51, 224, 225, 226] (by decide +kernel) (by decide +kernel)
set_option maxRecDepth 20000 in
theorem gX5_init_X2_init_n38 : GoodIn wsX5_init (wsX2_init) := ggX5_init_X2_init
set_option maxRecDepth 20000 in
theorem ggX5_init_X3_init : GoodIn wsX5_init wsX3_init := goodIn_r _ [53, 54, 2, 3, 28, 55, 56, 57, 58, 227, 228, 229, 230] (by decide +kernel) (by decide +kernel)
set_option maxRecDepth 20000 in
theorem gX5_init_X3_init_n45 : GoodIn wsX5_init (wsX3_init) := ggX5_init_X3_init
set_option maxRecDepth 20000 in
theorem ggX5_init_J0_length_8abf5 : GoodIn wsX5_init wsJ0_length_8abf5 := goodIn_r _ [63, 64, 65, 66, 67, 62, 68, 69, 70] (by decide +kernel) (by decide +kernel)
set_option maxRecDepth 20000 in
theorem gX5_init_J0_length_8abf5 : GoodIn wsX5_init (wsV RX5 60 RJ0 yJ0_length_8abf5 wsJ0_length_8abf5) := goodIn_app (goodIn_of _ (by decide +kernel)) ggX5_init_J0_length_8abf5
set_option maxRecDepth 20000 in
theorem ggX5_init_J0_charAt_5068e : GoodIn wsX5_init wsJ0_charAt_5068e := goodIn_r _ [74, 64, 75, 76, 77, 62, 78, 69, 70, 79, 80, 81, 82, 83, 84, 85, 86, 87, 88, 89, 90, 91, 92, 93, 94, 95, 96, 97, 98, 99, 100, 101, 102, 103, 104, 105, 106, 107] (by decide +kernel) (by decide +kernel)
set_option maxRecDepth 20000 in
theorem gX5_init_J0_charAt_5068e : GoodIn wsX5_init (wsV RX5 66 RJ0 yJ0_charAt_5068e wsJ0_charAt_5068e) := goodIn_app (goodIn_of _ (by decide +kernel)) ggX5_init_J0_charAt_5068e
set_option maxRecDepth 20000 in
theorem ggX5_init_X1_add : GoodIn wsX5_init wsX1_add := goodIn_r _ [111, 112, 34, 195, 196] (by decide +kernel) (by decide +kernel)
set_option maxRecDepth 20000 in
theorem gX5_init_X1_add : GoodIn wsX5_init (wsV RX5 70 RX1 yX1_add wsX1_add) := goodIn_app (goodIn_of _ (by decide +kernel)) ggX5_init_X1_add
set_option maxRecDepth 20000 in
theorem ggX5_init_X5_lay : GoodIn wsX5_init wsX5_lay := goodIn_r _ [117, 12, 7, 118, 11, 16, 119, 120, 21, 25, 121, 122, 123, 124, 10, 125, 126, 127, 128, 129, 130, 131, 132, 133, 134, 135, 44, 136, 137, 138, 6, 139, 112, 34, 140, 141, 142, 143, 144, 145, 146, 147, 148, 149, 150, 151, 152, 153, 154, 155, 156, 157, 158, 159, 38, 39, 160, 161, 162, 163, 40, 41, 42, 43, 164, 165, 166, 167, 168, 169, 170, 171, 172, 173, 174, 15, 175, 176, 177, 178, 179, 180, 181, 182, 183, 20, 184, 185, 186, 187, 188, 24, 189, 190, 197, 198, 199, 200, 201, 202, 203, 204, 205, 206, 207, 208, 209, 210, 211, 212, 213, 214, 215, 216, 217, 218, 195, 196, 219, 220, 221, 222, 223, 224, 225, 226, 227, 228, 229, 230] (by decide +kernel) (by decide +kernel)
set_option maxRecDepth 20000 in
theorem gX5_init_X5_lay : GoodIn wsX5_init (wsV RX5 74 RX5 yX5_lay wsX5_lay) := goodIn_app (goodIn_of _ (by decide +kernel)) ggX5_init_X5_lay
set_option maxRecDepth 20000 in
theorem ggX5_init_X1_clear : GoodIn wsX5_init wsX1_clear := goodIn_r _ [194, 112, 195, 196] (by decide +kernel) (by decide +kernel)
set_option maxRecDepth 20000 in
theorem gX5_init_X1_clear : GoodIn wsX5_init (wsV RX5 77 RX1 yX1_clear wsX1_clear) := goodIn_app (goodIn_of _ (by decide +kernel)) ggX5_init_X1_clear
theorem dX5_init_0 : decode cX5_init 0 = .ok (.aload_n 0, 1) := by decide +kernel
theorem dX5_init_1 : decode cX5_init 1 = .ok (.invokespecial 1, 3) := by decide +kernel
theorem dX5_init_4 : decode cX5_init 4 = .ok (.aload_n 0, 1) := by decide +kernel
theorem dX5_init_5 : decode cX5_init 5 = .ok (.new 7, 3) := by decide +kernel
theorem dX5_init_8 : decode cX5_init 8 = .ok (.dup, 1) := by decide +kernel
theorem dX5_init_9 : decode cX5_init 9 = .ok (.invokespecial 9, 3) := by decide +kernel
theorem dX5_init_12 : decode cX5_init 12 = .ok (.putfield 10, 3) := by decide +kernel
theorem dX5_init_15 : decode cX5_init 15 = .ok (.aload_n 0, 1) := by decide +kernel
theorem dX5_init_16 : decode cX5_init 16 = .ok (.new 16, 3) := by decide +kernel
theorem dX5_init_19 : decode cX5_init 19 = .ok (.dup, 1) := by decide +kernel
theorem dX5_init_20 : decode cX5_init 20 = .ok (.invokespecial 18, 3) := by decide +kernel
theorem dX5_init_23 : decode cX5_init 23 = .ok (.putfield 19, 3) := by decide +kernel
theorem dX5_init_26 : decode cX5_init 26 = .ok (.aload_n 0, 1) := by decide +kernel
theorem dX5_init_27 : decode cX5_init 27 = .ok (.new 16, 3) := by decide +kernel
theorem dX5_init_30 : decode cX5_init 30 = .ok (.dup, 1) := by decide +kernel
theorem dX5_init_31 : decode cX5_init 31 = .ok (.invokespecial 18, 3) := by decide +kernel
theorem dX5_init_34 : decode cX5_init 34 = .ok (.putfield 23, 3) := by decide +kernel
theorem dX5_init_37 : decode cX5_init 37 = .ok (.aload_n 0, 1) := by decide +kernel
theorem dX5_init_38 : decode cX5_init 38 = .ok (.new 26, 3) := by decide +kernel
theorem dX5_init_41 : decode cX5_init 41 = .ok (.dup, 1) := by decide +kernel
theorem dX5_init_42 : decode cX5_init 42 = .ok (.invokespecial 28, 3) := by decide +kernel
theorem dX5_init_45 : decode cX5_init 45 = .ok (.putfield 29, 3) := by decide +kernel
theorem dX5_init_48 : decode cX5_init 48 = .ok (.aload_n 0, 1) := by decide +kernel
theorem dX5_init_49 : decode cX5_init 49 = .ok (.new 26, 3) := by decide +kernel
theorem dX5_init_52 : decode cX5_init 52 = .ok (.dup, 1) := by decide +kernel
theorem dX5_init_53 : decode cX5_init 53 = .ok (.invokespecial 28, 3) := by decide +kernel
theorem dX5_init_56 : decode cX5_init 56 = .ok (.putfield 33, 3) := by decide +kernel
theorem dX5_init_59 : decode cX5_init 59 = .ok (.aload_n 0, 1) := by decide +kernel
theorem dX5_init_60 : decode cX5_init 60 = .ok (.new 36, 3) := by decide +kernel
theorem dX5_init_63 : decode cX5_init 63 = .ok (.dup, 1) := by decide +kernel
theorem dX5_init_64 : decode cX5_init 64 = .ok (.invokespecial 38, 3) := by decide +kernel
theorem dX5_init_67 : decode cX5_init 67 = .ok (.putfield 39, 3) := by decide +kernel
theorem dX5_init_70 : decode cX5_init 70 = .ok (.aload_n 0, 1) := by decide +kernel
theorem dX5_init_71 : decode cX5_init 71 = .ok (.new 43, 3) := by decide +kernel
theorem dX5_init_74 : decode cX5_init 74 = .ok (.dup, 1) := by decide +kernel
theorem dX5_init_75 : decode cX5_init 75 = .ok (.invokespecial 45, 3) := by decide +kernel
theorem dX5_init_78 : decode cX5_init 78 = .ok (.putfield 46, 3) := by decide +kernel
theorem dX5_init_81 : decode cX5_init 81 = .ok (.aload_n 0, 1) := by decide +kernel
theorem dX5_init_82 : decode cX5_init 82 = .ok (.iconst 2, 1) := by decide +kernel
theorem dX5_init_83 : decode cX5_init 83 = .ok (.newarray .long, 2) := by decide +kernel
theorem dX5_init_85 : decode cX5_init 85 = .ok (.putfield 50, 3) := by decide +kernel
theorem dX5_init_88 : decode cX5_init 88 = .ok (.aload_n 0, 1) := by decide +kernel
theorem dX5_init_89 : decode cX5_init 89 = .ok (.bipush 8, 2) := by decide +kernel
theorem dX5_init_91 : decode cX5_init 91 = .ok (.newarray .int, 2) := by decide +kernel
theorem dX5_init_93 : decode cX5_init 93 = .ok (.putfield 54, 3) := by decide +kernel
theorem dX5_init_96 : decode cX5_init 96 = .ok (.iconst 0, 1) := by decide +kernel
theorem dX5_init_97 : decode cX5_init 97 = .ok (.istore_n 1, 1) := by decide +kernel
theorem dX5_init_98 : decode cX5_init 98 = .ok (.iload_n 1, 1) := by decide +kernel
theorem dX5_init_99 : decode cX5_init 99 = .ok (.ldc 58, 2) := by decide +kernel
theorem dX5_init_101 : decode cX5_init 101 = .ok (.invokevirtual 60, 3) := by decide +kernel
theorem dX5_init_104 : decode cX5_init 104 = .ok (.if_icmp .ge 23, 3) := by decide +kernel
theorem dX5_init_107 : decode cX5_init 107 = .ok (.aload_n 0, 1) := by decide +kernel
theorem dX5_init_108 : decode cX5_init 108 = .ok (.getfield 10, 3) := by decide +kernel
theorem dX5_init_111 : decode cX5_init 111 = .ok (.ldc 58, 2) := by decide +kernel
theorem dX5_init_113 : decode cX5_init 113 = .ok (.iload_n 1, 1) := by decide +kernel
theorem dX5_init_114 : decode cX5_init 114 = .ok (.invokevirtual 66, 3) := by decide +kernel
theorem dX5_init_117 : decode cX5_init 117 = .ok (.invokevirtual 70, 3) := by decide +kernel
theorem dX5_init_120 : decode cX5_init 120 = .ok (.pop, 1) := by decide +kernel
theorem dX5_init_121 : decode cX5_init 121 = .ok (.iinc 1 1, 3) := by decide +kernel
theorem dX5_init_124 : decode cX5_init 124 = .ok (.goto (-26), 3) := by decide +kernel
theorem dX5_init_127 : decode cX5_init 127 = .ok (.aload_n 0, 1) := by decide +kernel
theorem dX5_init_128 : decode cX5_init 128 = .ok (.invokevirtual 74, 3) := by decide +kernel
theorem dX5_init_131 : decode cX5_init 131 = .ok (.pop, 1) := by decide +kernel
theorem dX5_init_132 : decode cX5_init 132 = .ok (.aload_n 0, 1) := by decide +kernel
theorem dX5_init_133 : decode cX5_init 133 = .ok (.getfield 10, 3) := by decide +kernel
theorem dX5_init_136 : decode cX5_init 136 = .ok (.invokevirtual 77, 3) := by decide +kernel
theorem dX5_init_139 : decode cX5_init 139 = .ok (.return_, 1) := by decide +kernel
set_option maxRecDepth 20000 in
theorem ggX5_write_X5_isWithin : GoodIn wsX5_write wsX5_isWithin := goodIn_r _ [6] (by decide +kernel) (by decide +kernel)
set_option maxRecDepth 20000 in
theorem gX5_write_X5_isWithin : GoodIn wsX5_write (va_wsS RX5 80 yX5_isWithin wsX5_isWithin) := goodIn_app (goodIn_of _ (by decide +kernel)) ggX5_write_X5_isWithin
set_option maxRecDepth 20000 in
theorem ggX5_write_X1_add : GoodIn wsX5_write wsX1_add := goodIn_r _ [11, 12, 13, 24, 25] (by decide +kernel) (by decide +kernel)
set_option maxRecDepth 20000 in
theorem gX5_write_X1_add : GoodIn wsX5_write (wsV RX5 70 RX1 yX1_add wsX1_add) := goodIn_app (goodIn_of _ (by decide +kernel)) ggX5_write_X1_add
theorem dX5_write_0 : decode cX5_write 0 = .ok (.iload_n 1, 1) := by decide +kernel
theorem dX5_write_1 : decode cX5_write 1 = .ok (.bipush 32, 2) := by decide +kernel
theorem dX5_write_3 : decode cX5_write 3 = .ok (.bipush 126, 2) := by decide +kernel
theorem dX5_write_5 : decode cX5_write 5 = .ok (.invokestatic 80, 3) := by decide +kernel
theorem dX5_write_8 : decode cX5_write 8 = .ok (.ifCond .ne 5, 3) := by decide +kernel
theorem dX5_write_11 : decode cX5_write 11 = .ok (.iconst (-1), 1) := by decide +kernel
theorem dX5_write_12 : decode cX5_write 12 = .ok (.ireturn, 1) := by decide +kernel
theorem dX5_write_13 : decode cX5_write 13 = .ok (.aload_n 0, 1) := by decide +kernel
theorem dX5_write_14 : decode cX5_write 14 = .ok (.getfield 10, 3) := by decide +kernel
theorem dX5_write_17 : decode cX5_write 17 = .ok (.iload_n 1, 1) := by decide +kernel
theorem dX5_write_18 : decode cX5_write 18 = .ok (.i2c, 1) := by decide +kernel
theorem dX5_write_19 : decode cX5_write 19 = .ok (.invokevirtual 70, 3) := by decide +kernel
theorem dX5_write_22 : decode cX5_write 22 = .ok (.ifCond .eq 13, 3) := by decide +kernel
theorem dX5_write_25 : decode cX5_write 25 = .ok (.aload_n 0, 1) := by decide +kernel
theorem dX5_write_26 : decode cX5_write 26 = .ok (.getfield 10, 3) := by decide +kernel
theorem dX5_write_29 : decode cX5_write 29 = .ok (.getfield 84, 3) := by decide +kernel
theorem dX5_write_32 : decode cX5_write 32 = .ok (.goto 5, 3) := by decide +kernel
theorem dX5_write_35 : decode cX5_write 35 = .ok (.bipush (-3), 2) := by decide +kernel
theorem dX5_write_37 : decode cX5_write 37 = .ok (.ireturn, 1) := by decide +kernel
set_option maxRecDepth 20000 in
theorem ggX5_wipe_X1_clear : GoodIn wsX5_wipe wsX1_clear := goodIn_r _ [7, 8, 19, 20] (by decide +kernel) (by decide +kernel)
set_option maxRecDepth 20000 in
theorem gX5_wipe_X1_clear : GoodIn wsX5_wipe (wsV RX5 77 RX1 yX1_clear wsX1_clear) := goodIn_app (goodIn_of _ (by decide +kernel)) ggX5_wipe_X1_clear
theorem dX5_wipe_0 : decode cX5_wipe 0 = .ok (.aload_n 0, 1) := by decide +kernel
theorem dX5_wipe_1 : decode cX5_wipe 1 = .ok (.getfield 10, 3) := by decide +kernel
theorem dX5_wipe_4 : decode cX5_wipe 4 = .ok (.getfield 84, 3) := by decide +kernel
theorem dX5_wipe_7 : decode cX5_wipe 7 = .ok (.istore_n 1, 1) := by decide +kernel
theorem dX5_wipe_8 : decode cX5_wipe 8 = .ok (.aload_n 0, 1) := by decide +kernel
theorem dX5_wipe_9 : decode cX5_wipe 9 = .ok (.getfield 10, 3) := by decide +kernel
theorem dX5_wipe_12 : decode cX5_wipe 12 = .ok (.invokevirtual 77, 3) := by decide +kernel
theorem dX5_wipe_15 : decode cX5_wipe 15 = .ok (.iload_n 1, 1) := by decide +kernel
theorem dX5_wipe_16 : decode cX5_wipe 16 = .ok (.ireturn, 1) := by decide +kernel
set_option maxRecDepth 20000 in
theorem ggX5_fault_X0_readFrom : GoodIn wsX5_fault wsX0_readFrom := goodIn_r _ [7, 8, 9, 10, 11, 12, 13, 14, 15, 16, 6, 17, 18, 19, 20, 21, 22, 23, 24, 25, 26, 27, 28, 29, 30, 31, 32, 33, 34, 35, 36, 37, 38, 39, 40, 41, 42, 43, 44, 45, 46, 47, 48, 49, 50, 51, 52, 53, 54, 55, 56, 57, 58, 59, 60, 61, 62, 63, 74, 75, 76, 77, 78, 79, 80, 81, 82, 83, 84, 85, 86, 87] (by decide +kernel) (by decide +kernel)
set_option maxRecDepth 20000 in
theorem gX5_fault_X0_readFrom : GoodIn wsX5_fault (wsV RX5 87 RX0 yX0_readFrom wsX0_readFrom) := goodIn_app (goodIn_of _ (by decide +kernel)) ggX5_fault_X0_readFrom
theorem dX5_fault_0 : decode cX5_fault 0 = .ok (.aload_n 0, 1) := by decide +kernel
theorem dX5_fault_1 : decode cX5_fault 1 = .ok (.getfield 23, 3) := by decide +kernel
theorem dX5_fault_4 : decode cX5_fault 4 = .ok (.aload_n 0, 1) := by decide +kernel
theorem dX5_fault_5 : decode cX5_fault 5 = .ok (.getfield 10, 3) := by decide +kernel
theorem dX5_fault_8 : decode cX5_fault 8 = .ok (.invokevirtual 87, 3) := by decide +kernel
theorem dX5_fault_11 : decode cX5_fault 11 = .ok (.ireturn, 1) := by decide +kernel
set_option maxRecDepth 20000 in
theorem ggX5_lay_X0_readFrom : GoodIn wsX5_lay wsX0_readFrom := goodIn_r _ [15, 16, 17, 18, 19, 20, 21, 22, 23, 24, 14, 25, 26, 27, 28, 29, 30, 31, 32, 33, 34, 35, 36, 37, 38, 39, 40, 41, 42, 43, 44, 45, 46, 47, 48, 49, 50, 51, 52, 53, 54, 55, 56, 57, 58, 59, 60, 61, 62, 63, 64, 65, 66, 67, 68, 69, 70, 71, 104, 105, 106, 107, 108, 109, 110, 111, 112, 113, 114, 115, 116, 117] (by decide +kernel) (by decide +kernel)
set_option maxRecDepth 20000 in
theorem gX5_lay_X0_readFrom : GoodIn wsX5_lay (wsV RX5 87 RX0 yX0_readFrom wsX0_readFrom) := goodIn_app (goodIn_of _ (by decide +kernel)) ggX5_lay_X0_readFrom
set_option maxRecDepth 20000 in
theorem ggX5_lay_X4_begin : GoodIn wsX5_lay wsX4_begin := goodIn_r _ [76, 77, 78, 79, 80, 81, 118, 119, 120, 121, 122] (by decide +kernel) (by decide +kernel)
set_option maxRecDepth 20000 in
theorem gX5_lay_X4_begin : GoodIn wsX5_lay (wsV RX5 100 RX4 yX4_begin wsX4_begin) := goodIn_app (goodIn_of _ (by decide +kernel)) ggX5_lay_X4_begin
set_option maxRecDepth 20000 in
theorem ggX5_lay_X2_clear : GoodIn wsX5_lay wsX2_clear := goodIn_r _ [86, 87, 123, 124, 125] (by decide +kernel) (by decide +kernel)
set_option maxRecDepth 20000 in
theorem gX5_lay_X2_clear : GoodIn wsX5_lay (wsV RX5 104 RX2 yX2_clear wsX2_clear) := goodIn_app (goodIn_of _ (by decide +kernel)) ggX5_lay_X2_clear
set_option maxRecDepth 20000 in
theorem ggX5_lay_X3_clear : GoodIn wsX5_lay wsX3_clear := goodIn_r _ [92, 93, 126, 127, 128, 129] (by decide +kernel) (by decide +kernel)
set_option maxRecDepth 20000 in
theorem gX5_lay_X3_clear : GoodIn wsX5_lay (wsV RX5 105 RX3 yX3_clear wsX3_clear) := goodIn_app (goodIn_of _ (by decide +kernel)) ggX5_lay_X3_clear
theorem dX5_lay_0 : decode cX5_lay 0 = .ok (.aload_n 0, 1) := by decide +kernel
theorem dX5_lay_1 : decode cX5_lay 1 = .ok (.getfield 23, 3) := by decide +kernel
theorem dX5_lay_4 : decode cX5_lay 4 = .ok (.aload_n 0, 1) := by decide +kernel
theorem dX5_lay_5 : decode cX5_lay 5 = .ok (.getfield 10, 3) := by decide +kernel
theorem dX5_lay_8 : decode cX5_lay 8 = .ok (.invokevirtual 87, 3) := by decide +kernel
theorem dX5_lay_11 : decode cX5_lay 11 = .ok (.bipush (-4), 2) := by decide +kernel
theorem dX5_lay_13 : decode cX5_lay 13 = .ok (.if_icmp .ne 13, 3) := by decide +kernel
theorem dX5_lay_16 : decode cX5_lay 16 = .ok (.aload_n 0, 1) := by decide +kernel
theorem dX5_lay_17 : decode cX5_lay 17 = .ok (.getfield 23, 3) := by decide +kernel
theorem dX5_lay_20 : decode cX5_lay 20 = .ok (.getfield 91, 3) := by decide +kernel
theorem dX5_lay_23 : decode cX5_lay 23 = .ok (.ifCond .ne 6, 3) := by decide +kernel
theorem dX5_lay_26 : decode cX5_lay 26 = .ok (.bipush (-2), 2) := by decide +kernel
theorem dX5_lay_28 : decode cX5_lay 28 = .ok (.ireturn, 1) := by decide +kernel
theorem dX5_lay_29 : decode cX5_lay 29 = .ok (.aload_n 0, 1) := by decide +kernel
theorem dX5_lay_30 : decode cX5_lay 30 = .ok (.getfield 19, 3) := by decide +kernel
theorem dX5_lay_33 : decode cX5_lay 33 = .ok (.astore_n 1, 1) := by decide +kernel
theorem dX5_lay_34 : decode cX5_lay 34 = .ok (.aload_n 0, 1) := by decide +kernel
theorem dX5_lay_35 : decode cX5_lay 35 = .ok (.aload_n 0, 1) := by decide +kernel
theorem dX5_lay_36 : decode cX5_lay 36 = .ok (.getfield 23, 3) := by decide +kernel
theorem dX5_lay_39 : decode cX5_lay 39 = .ok (.putfield 19, 3) := by decide +kernel
theorem dX5_lay_42 : decode cX5_lay 42 = .ok (.aload_n 0, 1) := by decide +kernel
theorem dX5_lay_43 : decode cX5_lay 43 = .ok (.aload_n 1, 1) := by decide +kernel
theorem dX5_lay_44 : decode cX5_lay 44 = .ok (.putfield 23, 3) := by decide +kernel
theorem dX5_lay_47 : decode cX5_lay 47 = .ok (.aload_n 0, 1) := by decide +kernel
theorem dX5_lay_48 : decode cX5_lay 48 = .ok (.getfield 29, 3) := by decide +kernel
theorem dX5_lay_51 : decode cX5_lay 51 = .ok (.aload_n 0, 1) := by decide +kernel
theorem dX5_lay_52 : decode cX5_lay 52 = .ok (.getfield 19, 3) := by decide +kernel
theorem dX5_lay_55 : decode cX5_lay 55 = .ok (.getfield 94, 3) := by decide +kernel
theorem dX5_lay_58 : decode cX5_lay 58 = .ok (.aload_n 0, 1) := by decide +kernel
theorem dX5_lay_59 : decode cX5_lay 59 = .ok (.getfield 19, 3) := by decide +kernel
theorem dX5_lay_62 : decode cX5_lay 62 = .ok (.getfield 97, 3) := by decide +kernel
theorem dX5_lay_65 : decode cX5_lay 65 = .ok (.invokevirtual 100, 3) := by decide +kernel
theorem dX5_lay_68 : decode cX5_lay 68 = .ok (.aload_n 0, 1) := by decide +kernel
theorem dX5_lay_69 : decode cX5_lay 69 = .ok (.getfield 39, 3) := by decide +kernel
theorem dX5_lay_72 : decode cX5_lay 72 = .ok (.invokevirtual 104, 3) := by decide +kernel
theorem dX5_lay_75 : decode cX5_lay 75 = .ok (.aload_n 0, 1) := by decide +kernel
theorem dX5_lay_76 : decode cX5_lay 76 = .ok (.getfield 46, 3) := by decide +kernel
theorem dX5_lay_79 : decode cX5_lay 79 = .ok (.invokevirtual 105, 3) := by decide +kernel
theorem dX5_lay_82 : decode cX5_lay 82 = .ok (.aload_n 0, 1) := by decide +kernel
theorem dX5_lay_83 : decode cX5_lay 83 = .ok (.iconst 0, 1) := by decide +kernel
theorem dX5_lay_84 : decode cX5_lay 84 = .ok (.putfield 106, 3) := by decide +kernel
theorem dX5_lay_87 : decode cX5_lay 87 = .ok (.aload_n 0, 1) := by decide +kernel
theorem dX5_lay_88 : decode cX5_lay 88 = .ok (.getfield 19, 3) := by decide +kernel
theorem dX5_lay_91 : decode cX5_lay 91 = .ok (.getfield 91, 3) := by decide +kernel
theorem dX5_lay_94 : decode cX5_lay 94 = .ok (.ireturn, 1) := by decide +kernel
set_option maxRecDepth 20000 in
theorem ggX5_piece_X5_isPiece : GoodIn wsX5_piece wsX5_isPiece := goodIn_r _ [9, 1, 10, 11, 12, 8, 13, 53, 54, 55, 56, 57, 58, 59, 60, 61, 62, 63, 64, 65, 66, 67, 68, 69, 70, 71, 72, 73, 74] (by decide +kernel) (by decide +kernel)
set_option maxRecDepth 20000 in
theorem gX5_piece_X5_isPiece : GoodIn wsX5_piece (wsV RX5 109 RX5 yX5_isPiece wsX5_isPiece) := goodIn_app (goodIn_of _ (by decide +kernel)) ggX5_piece_X5_isPiece
set_option maxRecDepth 20000 in
theorem ggX5_piece_X4_roomOf : GoodIn wsX5_piece wsX4_roomOf := goodIn_r _ [18, 19, 75, 76, 77, 78, 79] (by decide +kernel) (by decide +kernel)
set_option maxRecDepth 20000 in
theorem gX5_piece_X4_roomOf : GoodIn wsX5_piece (wsV RX5 116 RX4 yX4_roomOf wsX4_roomOf) := goodIn_app (goodIn_of _ (by decide +kernel)) ggX5_piece_X4_roomOf
set_option maxRecDepth 20000 in
theorem ggX5_piece_X4_howIs : GoodIn wsX5_piece wsX4_howIs := goodIn_r _ [23, 24, 25, 75, 76, 77, 78, 79] (by decide +kernel) (by decide +kernel)
set_option maxRecDepth 20000 in
theorem gX5_piece_X4_howIs : GoodIn wsX5_piece (wsV RX5 123 RX4 yX4_howIs wsX4_howIs) := goodIn_app (goodIn_of _ (by decide +kernel)) ggX5_piece_X4_howIs
set_option maxRecDepth 20000 in
theorem ggX5_piece_X0_toldBy : GoodIn wsX5_piece wsX0_toldBy := goodIn_r _ [30, 31, 32, 33, 34, 35, 36, 37, 38, 29, 39, 40, 41, 42, 43, 63, 64, 65, 66, 67, 68, 69, 70, 71, 72, 73, 74] (by decide +kernel) (by decide +kernel)
set_option maxRecDepth 20000 in
theorem gX5_piece_X0_toldBy : GoodIn wsX5_piece (wsV RX5 126 RX0 yX0_toldBy wsX0_toldBy) := goodIn_app (goodIn_of _ (by decide +kernel)) ggX5_piece_X0_toldBy
set_option maxRecDepth 20000 in
theorem ggX5_piece_X5_isLoose : GoodIn wsX5_piece wsX5_isLoose := goodIn_r _ [47, 1, 2, 20, 21, 22, 17, 23, 24, 25, 48, 49, 50, 29, 51, 52, 53, 54, 55, 56, 57, 58, 59, 60, 61, 62, 63, 64, 65, 66, 67, 68, 69, 70, 71, 72, 73, 74, 75, 76, 77, 78, 79] (by decide +kernel) (by decide +kernel)
set_option maxRecDepth 20000 in
theorem gX5_piece_X5_isLoose : GoodIn wsX5_piece (wsV RX5 130 RX5 yX5_isLoose wsX5_isLoose) := goodIn_app (goodIn_of _ (by decide +kernel)) ggX5_piece_X5_isLoose
theorem dX5_piece_0 : decode cX5_piece 0 = .ok (.aload_n 0, 1) := by decide +kernel
theorem dX5_piece_1 : decode cX5_piece 1 = .ok (.iload_n 1, 1) := by decide +kernel
theorem dX5_piece_2 : decode cX5_piece 2 = .ok (.invokevirtual 109, 3) := by decide +kernel
theorem dX5_piece_5 : decode cX5_piece 5 = .ok (.ifCond .ne 5, 3) := by decide +kernel
theorem dX5_piece_8 : decode cX5_piece 8 = .ok (.iconst (-1), 1) := by decide +kernel
theorem dX5_piece_9 : decode cX5_piece 9 = .ok (.ireturn, 1) := by decide +kernel
theorem dX5_piece_10 : decode cX5_piece 10 = .ok (.iload_n 2, 1) := by decide +kernel
theorem dX5_piece_11 : decode cX5_piece 11 = .ok (.tableswitch 110 0 5 #[37, 47, 56, 66, 75, 92], 37) := by decide +kernel
theorem dX5_piece_48 : decode cX5_piece 48 = .ok (.aload_n 0, 1) := by decide +kernel
theorem dX5_piece_49 : decode cX5_piece 49 = .ok (.getfield 19, 3) := by decide +kernel
theorem dX5_piece_52 : decode cX5_piece 52 = .ok (.getfield 113, 3) := by decide +kernel
theorem dX5_piece_55 : decode cX5_piece 55 = .ok (.iload_n 1, 1) := by decide +kernel
theorem dX5_piece_56 : decode cX5_piece 56 = .ok (.iaload, 1) := by decide +kernel
theorem dX5_piece_57 : decode cX5_piece 57 = .ok (.ireturn, 1) := by decide +kernel
theorem dX5_piece_58 : decode cX5_piece 58 = .ok (.aload_n 0, 1) := by decide +kernel
theorem dX5_piece_59 : decode cX5_piece 59 = .ok (.getfield 29, 3) := by decide +kernel
theorem dX5_piece_62 : decode cX5_piece 62 = .ok (.iload_n 1, 1) := by decide +kernel
theorem dX5_piece_63 : decode cX5_piece 63 = .ok (.invokevirtual 116, 3) := by decide +kernel
theorem dX5_piece_66 : decode cX5_piece 66 = .ok (.ireturn, 1) := by decide +kernel
theorem dX5_piece_67 : decode cX5_piece 67 = .ok (.aload_n 0, 1) := by decide +kernel
theorem dX5_piece_68 : decode cX5_piece 68 = .ok (.getfield 19, 3) := by decide +kernel
theorem dX5_piece_71 : decode cX5_piece 71 = .ok (.getfield 120, 3) := by decide +kernel
theorem dX5_piece_74 : decode cX5_piece 74 = .ok (.iload_n 1, 1) := by decide +kernel
theorem dX5_piece_75 : decode cX5_piece 75 = .ok (.iaload, 1) := by decide +kernel
theorem dX5_piece_76 : decode cX5_piece 76 = .ok (.ireturn, 1) := by decide +kernel
theorem dX5_piece_77 : decode cX5_piece 77 = .ok (.aload_n 0, 1) := by decide +kernel
theorem dX5_piece_78 : decode cX5_piece 78 = .ok (.getfield 29, 3) := by decide +kernel
theorem dX5_piece_81 : decode cX5_piece 81 = .ok (.iload_n 1, 1) := by decide +kernel
theorem dX5_piece_82 : decode cX5_piece 82 = .ok (.invokevirtual 123, 3) := by decide +kernel
theorem dX5_piece_85 : decode cX5_piece 85 = .ok (.ireturn, 1) := by decide +kernel
theorem dX5_piece_86 : decode cX5_piece 86 = .ok (.aload_n 0, 1) := by decide +kernel
theorem dX5_piece_87 : decode cX5_piece 87 = .ok (.getfield 19, 3) := by decide +kernel
theorem dX5_piece_90 : decode cX5_piece 90 = .ok (.iload_n 1, 1) := by decide +kernel
theorem dX5_piece_91 : decode cX5_piece 91 = .ok (.aload_n 0, 1) := by decide +kernel
theorem dX5_piece_92 : decode cX5_piece 92 = .ok (.getfield 29, 3) := by decide +kernel
theorem dX5_piece_95 : decode cX5_piece 95 = .ok (.iload_n 1, 1) := by decide +kernel
theorem dX5_piece_96 : decode cX5_piece 96 = .ok (.invokevirtual 116, 3) := by decide +kernel
theorem dX5_piece_99 : decode cX5_piece 99 = .ok (.invokevirtual 126, 3) := by decide +kernel
theorem dX5_piece_102 : decode cX5_piece 102 = .ok (.ireturn, 1) := by decide +kernel
theorem dX5_piece_103 : decode cX5_piece 103 = .ok (.aload_n 0, 1) := by decide +kernel
theorem dX5_piece_104 : decode cX5_piece 104 = .ok (.aload_n 0, 1) := by decide +kernel
theorem dX5_piece_105 : decode cX5_piece 105 = .ok (.getfield 29, 3) := by decide +kernel
theorem dX5_piece_108 : decode cX5_piece 108 = .ok (.iload_n 1, 1) := by decide +kernel
theorem dX5_piece_109 : decode cX5_piece 109 = .ok (.invokevirtual 130, 3) := by decide +kernel
theorem dX5_piece_112 : decode cX5_piece 112 = .ok (.ifCond .eq 7, 3) := by decide +kernel
theorem dX5_piece_115 : decode cX5_piece 115 = .ok (.iconst 1, 1) := by decide +kernel
theorem dX5_piece_116 : decode cX5_piece 116 = .ok (.goto 4, 3) := by decide +kernel
theorem dX5_piece_119 : decode cX5_piece 119 = .ok (.iconst 0, 1) := by decide +kernel
theorem dX5_piece_120 : decode cX5_piece 120 = .ok (.ireturn, 1) := by decide +kernel
theorem dX5_piece_121 : decode cX5_piece 121 = .ok (.iconst (-1), 1) := by decide +kernel
theorem dX5_piece_122 : decode cX5_piece 122 = .ok (.ireturn, 1) := by decide +kernel
set_option maxRecDepth 20000 in
theorem ggX5_deed_X5_isDeed : GoodIn wsX5_deed wsX5_isDeed := goodIn_r _ [10, 1, 11, 12, 13, 9, 14, 66, 67, 68, 69, 70, 71, 72, 73, 74, 75, 76, 77, 78, 79, 80, 81, 82, 83, 84, 85, 86, 87] (by decide +kernel) (by decide +kernel)
set_option maxRecDepth 20000 in
theorem gX5_deed_X5_isDeed : GoodIn wsX5_deed (wsV RX5 134 RX5 yX5_isDeed wsX5_isDeed) := goodIn_app (goodIn_of _ (by decide +kernel)) ggX5_deed_X5_isDeed
set_option maxRecDepth 20000 in
theorem ggX5_deed_X5_hasComeOut : GoodIn wsX5_deed wsX5_hasComeOut := goodIn_r _ [18, 19, 20, 66, 67, 68, 69, 70, 71, 72, 73, 74, 75, 88, 89, 90, 91, 92] (by decide +kernel) (by decide +kernel)
set_option maxRecDepth 20000 in
theorem gX5_deed_X5_hasComeOut : GoodIn wsX5_deed (wsV RX5 149 RX5 yX5_hasComeOut wsX5_hasComeOut) := goodIn_app (goodIn_of _ (by decide +kernel)) ggX5_deed_X5_hasComeOut
set_option maxRecDepth 20000 in
theorem ggX5_deed_X5_looseTellers : GoodIn wsX5_deed wsX5_looseTellers := goodIn_r _ [24, 1, 25, 19, 26, 27, 28, 9, 29, 30, 31, 32, 33, 34, 35, 36, 37, 38, 39, 40, 41, 42, 43, 44, 45, 46, 47, 48, 49, 50, 51, 52, 53, 54, 55, 56, 57, 58, 59, 60, 61, 62, 63, 64, 65, 66, 67, 68, 69, 70, 71, 72, 73, 74, 75, 76, 77, 78, 79, 80, 81, 82, 83, 84, 85, 86, 87, 88, 89, 90, 91, 92] (by decide +kernel) (by decide +kernel)
set_option maxRecDepth 20000 in
theorem gX5_deed_X5_looseTellers : GoodIn wsX5_deed (wsV RX5 152 RX5 yX5_looseTellers wsX5_looseTellers) := goodIn_app (goodIn_of _ (by decide +kernel)) ggX5_deed_X5_looseTellers
theorem dX5_deed_0 : decode cX5_deed 0 = .ok (.aload_n 0, 1) := by decide +kernel
theorem dX5_deed_1 : decode cX5_deed 1 = .ok (.iload_n 1, 1) := by decide +kernel
theorem dX5_deed_2 : decode cX5_deed 2 = .ok (.invokevirtual 134, 3) := by decide +kernel
theorem dX5_deed_5 : decode cX5_deed 5 = .ok (.ifCond .ne 5, 3) := by decide +kernel
theorem dX5_deed_8 : decode cX5_deed 8 = .ok (.iconst (-1), 1) := by decide +kernel
theorem dX5_deed_9 : decode cX5_deed 9 = .ok (.ireturn, 1) := by decide +kernel
theorem dX5_deed_10 : decode cX5_deed 10 = .ok (.iload_n 2, 1) := by decide +kernel
theorem dX5_deed_11 : decode cX5_deed 11 = .ok (.tableswitch 99 0 5 #[37, 47, 57, 67, 77, 91], 37) := by decide +kernel
theorem dX5_deed_48 : decode cX5_deed 48 = .ok (.aload_n 0, 1) := by decide +kernel
theorem dX5_deed_49 : decode cX5_deed 49 = .ok (.getfield 19, 3) := by decide +kernel
theorem dX5_deed_52 : decode cX5_deed 52 = .ok (.getfield 137, 3) := by decide +kernel
theorem dX5_deed_55 : decode cX5_deed 55 = .ok (.iload_n 1, 1) := by decide +kernel
theorem dX5_deed_56 : decode cX5_deed 56 = .ok (.iaload, 1) := by decide +kernel
theorem dX5_deed_57 : decode cX5_deed 57 = .ok (.ireturn, 1) := by decide +kernel
theorem dX5_deed_58 : decode cX5_deed 58 = .ok (.aload_n 0, 1) := by decide +kernel
theorem dX5_deed_59 : decode cX5_deed 59 = .ok (.getfield 19, 3) := by decide +kernel
theorem dX5_deed_62 : decode cX5_deed 62 = .ok (.getfield 140, 3) := by decide +kernel
theorem dX5_deed_65 : decode cX5_deed 65 = .ok (.iload_n 1, 1) := by decide +kernel
theorem dX5_deed_66 : decode cX5_deed 66 = .ok (.iaload, 1) := by decide +kernel
theorem dX5_deed_67 : decode cX5_deed 67 = .ok (.ireturn, 1) := by decide +kernel
theorem dX5_deed_68 : decode cX5_deed 68 = .ok (.aload_n 0, 1) := by decide +kernel
theorem dX5_deed_69 : decode cX5_deed 69 = .ok (.getfield 19, 3) := by decide +kernel
theorem dX5_deed_72 : decode cX5_deed 72 = .ok (.getfield 143, 3) := by decide +kernel
theorem dX5_deed_75 : decode cX5_deed 75 = .ok (.iload_n 1, 1) := by decide +kernel
theorem dX5_deed_76 : decode cX5_deed 76 = .ok (.iaload, 1) := by decide +kernel
theorem dX5_deed_77 : decode cX5_deed 77 = .ok (.ireturn, 1) := by decide +kernel
theorem dX5_deed_78 : decode cX5_deed 78 = .ok (.aload_n 0, 1) := by decide +kernel
theorem dX5_deed_79 : decode cX5_deed 79 = .ok (.getfield 19, 3) := by decide +kernel
theorem dX5_deed_82 : decode cX5_deed 82 = .ok (.getfield 146, 3) := by decide +kernel
theorem dX5_deed_85 : decode cX5_deed 85 = .ok (.iload_n 1, 1) := by decide +kernel
theorem dX5_deed_86 : decode cX5_deed 86 = .ok (.iaload, 1) := by decide +kernel
theorem dX5_deed_87 : decode cX5_deed 87 = .ok (.ireturn, 1) := by decide +kernel
theorem dX5_deed_88 : decode cX5_deed 88 = .ok (.aload_n 0, 1) := by decide +kernel
theorem dX5_deed_89 : decode cX5_deed 89 = .ok (.iload_n 1, 1) := by decide +kernel
theorem dX5_deed_90 : decode cX5_deed 90 = .ok (.invokevirtual 149, 3) := by decide +kernel
theorem dX5_deed_93 : decode cX5_deed 93 = .ok (.ifCond .eq 7, 3) := by decide +kernel
theorem dX5_deed_96 : decode cX5_deed 96 = .ok (.iconst 1, 1) := by decide +kernel
theorem dX5_deed_97 : decode cX5_deed 97 = .ok (.goto 4, 3) := by decide +kernel
theorem dX5_deed_100 : decode cX5_deed 100 = .ok (.iconst 0, 1) := by decide +kernel
theorem dX5_deed_101 : decode cX5_deed 101 = .ok (.ireturn, 1) := by decide +kernel
theorem dX5_deed_102 : decode cX5_deed 102 = .ok (.aload_n 0, 1) := by decide +kernel
theorem dX5_deed_103 : decode cX5_deed 103 = .ok (.iconst 1, 1) := by decide +kernel
theorem dX5_deed_104 : decode cX5_deed 104 = .ok (.iload_n 1, 1) := by decide +kernel
theorem dX5_deed_105 : decode cX5_deed 105 = .ok (.ishl, 1) := by decide +kernel
theorem dX5_deed_106 : decode cX5_deed 106 = .ok (.invokevirtual 152, 3) := by decide +kernel
theorem dX5_deed_109 : decode cX5_deed 109 = .ok (.ireturn, 1) := by decide +kernel
theorem dX5_deed_110 : decode cX5_deed 110 = .ok (.iconst (-1), 1) := by decide +kernel
theorem dX5_deed_111 : decode cX5_deed 111 = .ok (.ireturn, 1) := by decide +kernel
set_option maxRecDepth 20000 in
theorem ggX5_speak_X5_isPiece : GoodIn wsX5_speak wsX5_isPiece := goodIn_r _ [8, 3, 9, 10, 11, 7, 12, 82, 83, 84, 85, 86, 87, 88, 89, 90, 91, 92, 93, 94, 95, 96, 97, 98, 99, 100, 101, 102, 103] (by decide +kernel) (by decide +kernel)
set_option maxRecDepth 20000 in
theorem gX5_speak_X5_isPiece : GoodIn wsX5_speak (wsV RX5 109 RX5 yX5_isPiece wsX5_isPiece) := goodIn_app (goodIn_of _ (by decide +kernel)) ggX5_speak_X5_isPiece
set_option maxRecDepth 20000 in
theorem ggX5_speak_X5_isLoose : GoodIn wsX5_speak wsX5_isLoose := goodIn_r _ [16, 3, 17, 18, 19, 20, 21, 22, 23, 24, 25, 26, 27, 28, 29, 30, 82, 83, 84, 85, 86, 87, 88, 89, 90, 91, 92, 93, 94, 95, 96, 97, 98, 99, 100, 101, 102, 103, 104, 105, 106, 107, 108] (by decide +kernel) (by decide +kernel)
set_option maxRecDepth 20000 in
theorem gX5_speak_X5_isLoose : GoodIn wsX5_speak (wsV RX5 130 RX5 yX5_isLoose wsX5_isLoose) := goodIn_app (goodIn_of _ (by decide +kernel)) ggX5_speak_X5_isLoose
set_option maxRecDepth 20000 in
theorem ggX5_speak_X4_packed : GoodIn wsX5_speak wsX4_packed := goodIn_r _ [34, 35, 36, 23, 24, 37, 104, 105, 106, 107, 108] (by decide +kernel) (by decide +kernel)
set_option maxRecDepth 20000 in
theorem gX5_speak_X4_packed : GoodIn wsX5_speak (wsV RX5 155 RX4 yX4_packed wsX4_packed) := goodIn_app (goodIn_of _ (by decide +kernel)) ggX5_speak_X4_packed
set_option maxRecDepth 20000 in
theorem ggX5_speak_X2_push : GoodIn wsX5_speak wsX2_push := goodIn_r _ [42, 43, 44, 45, 46, 47, 48, 49, 109, 110, 111] (by decide +kernel) (by decide +kernel)
set_option maxRecDepth 20000 in
theorem gX5_speak_X2_push : GoodIn wsX5_speak (wsV RX5 159 RX2 yX2_push wsX2_push) := goodIn_app (goodIn_of _ (by decide +kernel)) ggX5_speak_X2_push
set_option maxRecDepth 20000 in
theorem ggX5_speak_X4_roomOf : GoodIn wsX5_speak wsX4_roomOf := goodIn_r _ [53, 37, 104, 105, 106, 107, 108] (by decide +kernel) (by decide +kernel)
set_option maxRecDepth 20000 in
theorem gX5_speak_X4_roomOf : GoodIn wsX5_speak (wsV RX5 116 RX4 yX4_roomOf wsX4_roomOf) := goodIn_app (goodIn_of _ (by decide +kernel)) ggX5_speak_X4_roomOf
set_option maxRecDepth 20000 in
theorem ggX5_speak_X0_toldBy : GoodIn wsX5_speak wsX0_toldBy := goodIn_r _ [57, 58, 59, 60, 61, 62, 63, 64, 65, 28, 66, 67, 68, 69, 70, 92, 93, 94, 95, 96, 97, 98, 99, 100, 101, 102, 103] (by decide +kernel) (by decide +kernel)
set_option maxRecDepth 20000 in
theorem gX5_speak_X0_toldBy : GoodIn wsX5_speak (wsV RX5 126 RX0 yX0_toldBy wsX0_toldBy) := goodIn_app (goodIn_of _ (by decide +kernel)) ggX5_speak_X0_toldBy
set_option maxRecDepth 20000 in
theorem ggX5_speak_X4_letSpeak : GoodIn wsX5_speak wsX4_letSpeak := goodIn_r _ [74, 36, 23, 75, 76, 77, 78, 79, 80, 81, 104, 105, 106, 107, 108] (by decide +kernel) (by decide +kernel)
set_option maxRecDepth 20000 in
theorem gX5_speak_X4_letSpeak : GoodIn wsX5_speak (wsV RX5 163 RX4 yX4_letSpeak wsX4_letSpeak) := goodIn_app (goodIn_of _ (by decide +kernel)) ggX5_speak_X4_letSpeak
theorem dX5_speak_0 : decode cX5_speak 0 = .ok (.aload_n 0, 1) := by decide +kernel
theorem dX5_speak_1 : decode cX5_speak 1 = .ok (.iload_n 1, 1) := by decide +kernel
theorem dX5_speak_2 : decode cX5_speak 2 = .ok (.invokevirtual 109, 3) := by decide +kernel
theorem dX5_speak_5 : decode cX5_speak 5 = .ok (.ifCond .ne 5, 3) := by decide +kernel
theorem dX5_speak_8 : decode cX5_speak 8 = .ok (.iconst (-1), 1) := by decide +kernel
theorem dX5_speak_9 : decode cX5_speak 9 = .ok (.ireturn, 1) := by decide +kernel
theorem dX5_speak_10 : decode cX5_speak 10 = .ok (.aload_n 0, 1) := by decide +kernel
theorem dX5_speak_11 : decode cX5_speak 11 = .ok (.aload_n 0, 1) := by decide +kernel
theorem dX5_speak_12 : decode cX5_speak 12 = .ok (.getfield 29, 3) := by decide +kernel
theorem dX5_speak_15 : decode cX5_speak 15 = .ok (.iload_n 1, 1) := by decide +kernel
theorem dX5_speak_16 : decode cX5_speak 16 = .ok (.invokevirtual 130, 3) := by decide +kernel
theorem dX5_speak_19 : decode cX5_speak 19 = .ok (.ifCond .ne 6, 3) := by decide +kernel
theorem dX5_speak_22 : decode cX5_speak 22 = .ok (.bipush (-2), 2) := by decide +kernel
theorem dX5_speak_24 : decode cX5_speak 24 = .ok (.ireturn, 1) := by decide +kernel
theorem dX5_speak_25 : decode cX5_speak 25 = .ok (.aload_n 0, 1) := by decide +kernel
theorem dX5_speak_26 : decode cX5_speak 26 = .ok (.getfield 39, 3) := by decide +kernel
theorem dX5_speak_29 : decode cX5_speak 29 = .ok (.aload_n 0, 1) := by decide +kernel
theorem dX5_speak_30 : decode cX5_speak 30 = .ok (.getfield 29, 3) := by decide +kernel
theorem dX5_speak_33 : decode cX5_speak 33 = .ok (.invokevirtual 155, 3) := by decide +kernel
theorem dX5_speak_36 : decode cX5_speak 36 = .ok (.invokevirtual 159, 3) := by decide +kernel
theorem dX5_speak_39 : decode cX5_speak 39 = .ok (.aload_n 0, 1) := by decide +kernel
theorem dX5_speak_40 : decode cX5_speak 40 = .ok (.getfield 29, 3) := by decide +kernel
theorem dX5_speak_43 : decode cX5_speak 43 = .ok (.iload_n 1, 1) := by decide +kernel
theorem dX5_speak_44 : decode cX5_speak 44 = .ok (.aload_n 0, 1) := by decide +kernel
theorem dX5_speak_45 : decode cX5_speak 45 = .ok (.getfield 19, 3) := by decide +kernel
theorem dX5_speak_48 : decode cX5_speak 48 = .ok (.iload_n 1, 1) := by decide +kernel
theorem dX5_speak_49 : decode cX5_speak 49 = .ok (.aload_n 0, 1) := by decide +kernel
theorem dX5_speak_50 : decode cX5_speak 50 = .ok (.getfield 29, 3) := by decide +kernel
theorem dX5_speak_53 : decode cX5_speak 53 = .ok (.iload_n 1, 1) := by decide +kernel
theorem dX5_speak_54 : decode cX5_speak 54 = .ok (.invokevirtual 116, 3) := by decide +kernel
theorem dX5_speak_57 : decode cX5_speak 57 = .ok (.invokevirtual 126, 3) := by decide +kernel
theorem dX5_speak_60 : decode cX5_speak 60 = .ok (.invokevirtual 163, 3) := by decide +kernel
theorem dX5_speak_63 : decode cX5_speak 63 = .ok (.ireturn, 1) := by decide +kernel
set_option maxRecDepth 20000 in
theorem ggX5_buy_X5_isPiece : GoodIn wsX5_buy wsX5_isPiece := goodIn_r _ [10, 3, 11, 12, 13, 9, 14, 49, 50, 51, 52, 53, 54, 55, 56, 57, 58, 59, 60, 61, 62, 63, 64, 65, 66, 67, 68, 69, 70] (by decide +kernel) (by decide +kernel)
set_option maxRecDepth 20000 in
theorem gX5_buy_X5_isPiece : GoodIn wsX5_buy (wsV RX5 109 RX5 yX5_isPiece wsX5_isPiece) := goodIn_app (goodIn_of _ (by decide +kernel)) ggX5_buy_X5_isPiece
set_option maxRecDepth 20000 in
theorem ggX5_buy_X5_canBeBought : GoodIn wsX5_buy wsX5_canBeBought := goodIn_r _ [18, 3, 4, 5, 19, 20, 21, 22, 23, 24, 25, 49, 50, 51, 52, 53, 54, 55, 56, 57, 58, 59, 60, 61, 62, 63, 64, 65, 66, 67, 68, 69, 70, 71, 72, 73, 74, 75] (by decide +kernel) (by decide +kernel)
set_option maxRecDepth 20000 in
theorem gX5_buy_X5_canBeBought : GoodIn wsX5_buy (wsV RX5 166 RX5 yX5_canBeBought wsX5_canBeBought) := goodIn_app (goodIn_of _ (by decide +kernel)) ggX5_buy_X5_canBeBought
set_option maxRecDepth 20000 in
theorem ggX5_buy_X4_packed : GoodIn wsX5_buy wsX4_packed := goodIn_r _ [29, 30, 31, 24, 25, 32, 71, 72, 73, 74, 75] (by decide +kernel) (by decide +kernel)
set_option maxRecDepth 20000 in
theorem gX5_buy_X4_packed : GoodIn wsX5_buy (wsV RX5 155 RX4 yX4_packed wsX4_packed) := goodIn_app (goodIn_of _ (by decide +kernel)) ggX5_buy_X4_packed
set_option maxRecDepth 20000 in
theorem ggX5_buy_X2_push : GoodIn wsX5_buy wsX2_push := goodIn_r _ [37, 38, 39, 40, 41, 42, 43, 44, 76, 77, 78] (by decide +kernel) (by decide +kernel)
set_option maxRecDepth 20000 in
theorem gX5_buy_X2_push : GoodIn wsX5_buy (wsV RX5 159 RX2 yX2_push wsX2_push) := goodIn_app (goodIn_of _ (by decide +kernel)) ggX5_buy_X2_push
set_option maxRecDepth 20000 in
theorem ggX5_buy_X4_sell : GoodIn wsX5_buy wsX4_sell := goodIn_r _ [48, 25, 30, 71, 72, 73, 74, 75] (by decide +kernel) (by decide +kernel)
set_option maxRecDepth 20000 in
theorem gX5_buy_X4_sell : GoodIn wsX5_buy (wsV RX5 169 RX4 yX4_sell wsX4_sell) := goodIn_app (goodIn_of _ (by decide +kernel)) ggX5_buy_X4_sell
theorem dX5_buy_0 : decode cX5_buy 0 = .ok (.aload_n 0, 1) := by decide +kernel
theorem dX5_buy_1 : decode cX5_buy 1 = .ok (.iload_n 1, 1) := by decide +kernel
theorem dX5_buy_2 : decode cX5_buy 2 = .ok (.invokevirtual 109, 3) := by decide +kernel
theorem dX5_buy_5 : decode cX5_buy 5 = .ok (.ifCond .ne 5, 3) := by decide +kernel
theorem dX5_buy_8 : decode cX5_buy 8 = .ok (.iconst (-1), 1) := by decide +kernel
theorem dX5_buy_9 : decode cX5_buy 9 = .ok (.ireturn, 1) := by decide +kernel
theorem dX5_buy_10 : decode cX5_buy 10 = .ok (.aload_n 0, 1) := by decide +kernel
theorem dX5_buy_11 : decode cX5_buy 11 = .ok (.aload_n 0, 1) := by decide +kernel
theorem dX5_buy_12 : decode cX5_buy 12 = .ok (.getfield 29, 3) := by decide +kernel
theorem dX5_buy_15 : decode cX5_buy 15 = .ok (.iload_n 1, 1) := by decide +kernel
theorem dX5_buy_16 : decode cX5_buy 16 = .ok (.invokevirtual 166, 3) := by decide +kernel
theorem dX5_buy_19 : decode cX5_buy 19 = .ok (.ifCond .ne 6, 3) := by decide +kernel
theorem dX5_buy_22 : decode cX5_buy 22 = .ok (.bipush (-2), 2) := by decide +kernel
theorem dX5_buy_24 : decode cX5_buy 24 = .ok (.ireturn, 1) := by decide +kernel
theorem dX5_buy_25 : decode cX5_buy 25 = .ok (.aload_n 0, 1) := by decide +kernel
theorem dX5_buy_26 : decode cX5_buy 26 = .ok (.getfield 39, 3) := by decide +kernel
theorem dX5_buy_29 : decode cX5_buy 29 = .ok (.aload_n 0, 1) := by decide +kernel
theorem dX5_buy_30 : decode cX5_buy 30 = .ok (.getfield 29, 3) := by decide +kernel
theorem dX5_buy_33 : decode cX5_buy 33 = .ok (.invokevirtual 155, 3) := by decide +kernel
theorem dX5_buy_36 : decode cX5_buy 36 = .ok (.invokevirtual 159, 3) := by decide +kernel
theorem dX5_buy_39 : decode cX5_buy 39 = .ok (.aload_n 0, 1) := by decide +kernel
theorem dX5_buy_40 : decode cX5_buy 40 = .ok (.getfield 29, 3) := by decide +kernel
theorem dX5_buy_43 : decode cX5_buy 43 = .ok (.iload_n 1, 1) := by decide +kernel
theorem dX5_buy_44 : decode cX5_buy 44 = .ok (.aload_n 0, 1) := by decide +kernel
theorem dX5_buy_45 : decode cX5_buy 45 = .ok (.getfield 19, 3) := by decide +kernel
theorem dX5_buy_48 : decode cX5_buy 48 = .ok (.getfield 120, 3) := by decide +kernel
theorem dX5_buy_51 : decode cX5_buy 51 = .ok (.iload_n 1, 1) := by decide +kernel
theorem dX5_buy_52 : decode cX5_buy 52 = .ok (.iaload, 1) := by decide +kernel
theorem dX5_buy_53 : decode cX5_buy 53 = .ok (.invokevirtual 169, 3) := by decide +kernel
theorem dX5_buy_56 : decode cX5_buy 56 = .ok (.aload_n 0, 1) := by decide +kernel
theorem dX5_buy_57 : decode cX5_buy 57 = .ok (.getfield 29, 3) := by decide +kernel
theorem dX5_buy_60 : decode cX5_buy 60 = .ok (.getfield 172, 3) := by decide +kernel
theorem dX5_buy_63 : decode cX5_buy 63 = .ok (.ireturn, 1) := by decide +kernel
set_option maxRecDepth 20000 in
theorem ggX5_carry_X5_isPiece : GoodIn wsX5_carry wsX5_isPiece := goodIn_r _ [7, 8, 9, 10, 11, 6, 12, 47, 48, 49, 50, 51, 52, 53, 54, 55, 56, 57, 58, 59, 60, 61, 62, 63, 64, 65, 66, 67, 68] (by decide +kernel) (by decide +kernel)
set_option maxRecDepth 20000 in
theorem gX5_carry_X5_isPiece : GoodIn wsX5_carry (wsV RX5 109 RX5 yX5_isPiece wsX5_isPiece) := goodIn_app (goodIn_of _ (by decide +kernel)) ggX5_carry_X5_isPiece
set_option maxRecDepth 20000 in
theorem ggX5_carry_X5_isWithin : GoodIn wsX5_carry wsX5_isWithin := goodIn_r _ [12] (by decide +kernel) (by decide +kernel)
set_option maxRecDepth 20000 in
theorem gX5_carry_X5_isWithin : GoodIn wsX5_carry (va_wsS RX5 80 yX5_isWithin wsX5_isWithin) := goodIn_app (goodIn_of _ (by decide +kernel)) ggX5_carry_X5_isWithin
set_option maxRecDepth 20000 in
theorem ggX5_carry_X4_roomOf : GoodIn wsX5_carry wsX4_roomOf := goodIn_r _ [17, 18, 69, 70, 71, 72, 73] (by decide +kernel) (by decide +kernel)
set_option maxRecDepth 20000 in
theorem gX5_carry_X4_roomOf : GoodIn wsX5_carry (wsV RX5 116 RX4 yX4_roomOf wsX4_roomOf) := goodIn_app (goodIn_of _ (by decide +kernel)) ggX5_carry_X4_roomOf
set_option maxRecDepth 20000 in
theorem ggX5_carry_X4_howIs : GoodIn wsX5_carry wsX4_howIs := goodIn_r _ [22, 23, 24, 69, 70, 71, 72, 73] (by decide +kernel) (by decide +kernel)
set_option maxRecDepth 20000 in
theorem gX5_carry_X4_howIs : GoodIn wsX5_carry (wsV RX5 123 RX4 yX4_howIs wsX4_howIs) := goodIn_app (goodIn_of _ (by decide +kernel)) ggX5_carry_X4_howIs
set_option maxRecDepth 20000 in
theorem ggX5_carry_X4_packed : GoodIn wsX5_carry wsX4_packed := goodIn_r _ [28, 29, 30, 23, 24, 18, 69, 70, 71, 72, 73] (by decide +kernel) (by decide +kernel)
set_option maxRecDepth 20000 in
theorem gX5_carry_X4_packed : GoodIn wsX5_carry (wsV RX5 155 RX4 yX4_packed wsX4_packed) := goodIn_app (goodIn_of _ (by decide +kernel)) ggX5_carry_X4_packed
set_option maxRecDepth 20000 in
theorem ggX5_carry_X2_push : GoodIn wsX5_carry wsX2_push := goodIn_r _ [35, 36, 37, 38, 39, 40, 41, 42, 74, 75, 76] (by decide +kernel) (by decide +kernel)
set_option maxRecDepth 20000 in
theorem gX5_carry_X2_push : GoodIn wsX5_carry (wsV RX5 159 RX2 yX2_push wsX2_push) := goodIn_app (goodIn_of _ (by decide +kernel)) ggX5_carry_X2_push
set_option maxRecDepth 20000 in
theorem ggX5_carry_X4_move : GoodIn wsX5_carry wsX4_move := goodIn_r _ [46, 18, 69, 70, 71, 72, 73] (by decide +kernel) (by decide +kernel)
set_option maxRecDepth 20000 in
theorem gX5_carry_X4_move : GoodIn wsX5_carry (wsV RX5 173 RX4 yX4_move wsX4_move) := goodIn_app (goodIn_of _ (by decide +kernel)) ggX5_carry_X4_move
theorem dX5_carry_0 : decode cX5_carry 0 = .ok (.aload_n 0, 1) := by decide +kernel
theorem dX5_carry_1 : decode cX5_carry 1 = .ok (.iload_n 1, 1) := by decide +kernel
theorem dX5_carry_2 : decode cX5_carry 2 = .ok (.invokevirtual 109, 3) := by decide +kernel
theorem dX5_carry_5 : decode cX5_carry 5 = .ok (.ifCond .eq 12, 3) := by decide +kernel
theorem dX5_carry_8 : decode cX5_carry 8 = .ok (.iload_n 2, 1) := by decide +kernel
theorem dX5_carry_9 : decode cX5_carry 9 = .ok (.iconst 0, 1) := by decide +kernel
theorem dX5_carry_10 : decode cX5_carry 10 = .ok (.iconst 3, 1) := by decide +kernel
theorem dX5_carry_11 : decode cX5_carry 11 = .ok (.invokestatic 80, 3) := by decide +kernel
theorem dX5_carry_14 : decode cX5_carry 14 = .ok (.ifCond .ne 5, 3) := by decide +kernel
theorem dX5_carry_17 : decode cX5_carry 17 = .ok (.iconst (-1), 1) := by decide +kernel
theorem dX5_carry_18 : decode cX5_carry 18 = .ok (.ireturn, 1) := by decide +kernel
theorem dX5_carry_19 : decode cX5_carry 19 = .ok (.aload_n 0, 1) := by decide +kernel
theorem dX5_carry_20 : decode cX5_carry 20 = .ok (.getfield 29, 3) := by decide +kernel
theorem dX5_carry_23 : decode cX5_carry 23 = .ok (.iload_n 1, 1) := by decide +kernel
theorem dX5_carry_24 : decode cX5_carry 24 = .ok (.invokevirtual 116, 3) := by decide +kernel
theorem dX5_carry_27 : decode cX5_carry 27 = .ok (.istore_n 3, 1) := by decide +kernel
theorem dX5_carry_28 : decode cX5_carry 28 = .ok (.aload_n 0, 1) := by decide +kernel
theorem dX5_carry_29 : decode cX5_carry 29 = .ok (.getfield 29, 3) := by decide +kernel
theorem dX5_carry_32 : decode cX5_carry 32 = .ok (.iload_n 1, 1) := by decide +kernel
theorem dX5_carry_33 : decode cX5_carry 33 = .ok (.invokevirtual 123, 3) := by decide +kernel
theorem dX5_carry_36 : decode cX5_carry 36 = .ok (.iconst 2, 1) := by decide +kernel
theorem dX5_carry_37 : decode cX5_carry 37 = .ok (.if_icmp .eq 8, 3) := by decide +kernel
theorem dX5_carry_40 : decode cX5_carry 40 = .ok (.iload_n 3, 1) := by decide +kernel
theorem dX5_carry_41 : decode cX5_carry 41 = .ok (.iload_n 2, 1) := by decide +kernel
theorem dX5_carry_42 : decode cX5_carry 42 = .ok (.if_icmp .ne 6, 3) := by decide +kernel
theorem dX5_carry_45 : decode cX5_carry 45 = .ok (.bipush (-2), 2) := by decide +kernel
theorem dX5_carry_47 : decode cX5_carry 47 = .ok (.ireturn, 1) := by decide +kernel
theorem dX5_carry_48 : decode cX5_carry 48 = .ok (.aload_n 0, 1) := by decide +kernel
theorem dX5_carry_49 : decode cX5_carry 49 = .ok (.getfield 39, 3) := by decide +kernel
theorem dX5_carry_52 : decode cX5_carry 52 = .ok (.aload_n 0, 1) := by decide +kernel
theorem dX5_carry_53 : decode cX5_carry 53 = .ok (.getfield 29, 3) := by decide +kernel
theorem dX5_carry_56 : decode cX5_carry 56 = .ok (.invokevirtual 155, 3) := by decide +kernel
theorem dX5_carry_59 : decode cX5_carry 59 = .ok (.invokevirtual 159, 3) := by decide +kernel
theorem dX5_carry_62 : decode cX5_carry 62 = .ok (.aload_n 0, 1) := by decide +kernel
theorem dX5_carry_63 : decode cX5_carry 63 = .ok (.getfield 29, 3) := by decide +kernel
theorem dX5_carry_66 : decode cX5_carry 66 = .ok (.iload_n 1, 1) := by decide +kernel
theorem dX5_carry_67 : decode cX5_carry 67 = .ok (.iload_n 2, 1) := by decide +kernel
theorem dX5_carry_68 : decode cX5_carry 68 = .ok (.invokevirtual 173, 3) := by decide +kernel
theorem dX5_carry_71 : decode cX5_carry 71 = .ok (.iload_n 3, 1) := by decide +kernel
theorem dX5_carry_72 : decode cX5_carry 72 = .ok (.ireturn, 1) := by decide +kernel
set_option maxRecDepth 20000 in
theorem ggX5_undo_X2_pop : GoodIn wsX5_undo wsX2_pop := goodIn_r _ [8, 9, 10, 11, 12, 13, 14, 15, 38, 39, 40] (by decide +kernel) (by decide +kernel)
set_option maxRecDepth 20000 in
theorem gX5_undo_X2_pop : GoodIn wsX5_undo (wsV RX5 179 RX2 yX2_pop wsX2_pop) := goodIn_app (goodIn_of _ (by decide +kernel)) ggX5_undo_X2_pop
set_option maxRecDepth 20000 in
theorem ggX5_undo_X4_unpack : GoodIn wsX5_undo wsX4_unpack := goodIn_r _ [20, 21, 22, 23, 24, 25, 26, 27, 41, 42, 43, 44, 45] (by decide +kernel) (by decide +kernel)
set_option maxRecDepth 20000 in
theorem gX5_undo_X4_unpack : GoodIn wsX5_undo (wsV RX5 182 RX4 yX4_unpack wsX4_unpack) := goodIn_app (goodIn_of _ (by decide +kernel)) ggX5_undo_X4_unpack
theorem dX5_undo_0 : decode cX5_undo 0 = .ok (.aload_n 0, 1) := by decide +kernel
theorem dX5_undo_1 : decode cX5_undo 1 = .ok (.getfield 39, 3) := by decide +kernel
theorem dX5_undo_4 : decode cX5_undo 4 = .ok (.getfield 176, 3) := by decide +kernel
theorem dX5_undo_7 : decode cX5_undo 7 = .ok (.ifCond .ne 6, 3) := by decide +kernel
theorem dX5_undo_10 : decode cX5_undo 10 = .ok (.bipush (-2), 2) := by decide +kernel
theorem dX5_undo_12 : decode cX5_undo 12 = .ok (.ireturn, 1) := by decide +kernel
theorem dX5_undo_13 : decode cX5_undo 13 = .ok (.aload_n 0, 1) := by decide +kernel
theorem dX5_undo_14 : decode cX5_undo 14 = .ok (.getfield 29, 3) := by decide +kernel
theorem dX5_undo_17 : decode cX5_undo 17 = .ok (.aload_n 0, 1) := by decide +kernel
theorem dX5_undo_18 : decode cX5_undo 18 = .ok (.getfield 39, 3) := by decide +kernel
theorem dX5_undo_21 : decode cX5_undo 21 = .ok (.invokevirtual 179, 3) := by decide +kernel
theorem dX5_undo_24 : decode cX5_undo 24 = .ok (.invokevirtual 182, 3) := by decide +kernel
theorem dX5_undo_27 : decode cX5_undo 27 = .ok (.aload_n 0, 1) := by decide +kernel
theorem dX5_undo_28 : decode cX5_undo 28 = .ok (.getfield 39, 3) := by decide +kernel
theorem dX5_undo_31 : decode cX5_undo 31 = .ok (.getfield 176, 3) := by decide +kernel
theorem dX5_undo_34 : decode cX5_undo 34 = .ok (.ireturn, 1) := by decide +kernel
set_option maxRecDepth 20000 in
theorem ggX5_hush_X5_isDeed : GoodIn wsX5_hush wsX5_isDeed := goodIn_r _ [5, 6, 7, 8, 9, 4, 10, 72, 73, 74, 75, 76, 77, 78, 79, 80, 81, 82, 83, 84, 85, 86, 87, 88, 89, 90, 91, 92, 93] (by decide +kernel) (by decide +kernel)
set_option maxRecDepth 20000 in
theorem gX5_hush_X5_isDeed : GoodIn wsX5_hush (wsV RX5 134 RX5 yX5_isDeed wsX5_isDeed) := goodIn_app (goodIn_of _ (by decide +kernel)) ggX5_hush_X5_isDeed
set_option maxRecDepth 20000 in
theorem ggX5_hush_X5_isWithin : GoodIn wsX5_hush wsX5_isWithin := goodIn_r _ [10] (by decide +kernel) (by decide +kernel)
set_option maxRecDepth 20000 in
theorem gX5_hush_X5_isWithin : GoodIn wsX5_hush (va_wsS RX5 80 yX5_isWithin wsX5_isWithin) := goodIn_app (goodIn_of _ (by decide +kernel)) ggX5_hush_X5_isWithin
set_option maxRecDepth 20000 in
theorem ggX5_hush_X5_hasComeOut : GoodIn wsX5_hush wsX5_hasComeOut := goodIn_r _ [14, 15, 16, 72, 73, 74, 75, 76, 77, 78, 79, 80, 81, 94, 95, 96, 97, 98] (by decide +kernel) (by decide +kernel)
set_option maxRecDepth 20000 in
theorem gX5_hush_X5_hasComeOut : GoodIn wsX5_hush (wsV RX5 149 RX5 yX5_hasComeOut wsX5_hasComeOut) := goodIn_app (goodIn_of _ (by decide +kernel)) ggX5_hush_X5_hasComeOut
set_option maxRecDepth 20000 in
theorem ggX5_hush_X5_silence : GoodIn wsX5_hush wsX5_silence := goodIn_r _ [20, 6, 21, 22, 23, 4, 24, 25, 15, 26, 27, 28, 29, 30, 31, 32, 33, 34, 35, 36, 37, 38, 39, 40, 41, 42, 43, 44, 45, 46, 47, 48, 49, 50, 51, 52, 53, 54, 55, 56, 57, 58, 59, 60, 61, 62, 63, 64, 65, 66, 67, 68, 69, 70, 71, 72, 73, 74, 75, 76, 77, 78, 79, 80, 81, 82, 83, 84, 85, 86, 87, 88, 89, 90, 91, 92, 93, 94, 95, 96, 97, 98] (by decide +kernel) (by decide +kernel)
set_option maxRecDepth 20000 in
theorem gX5_hush_X5_silence : GoodIn wsX5_hush (wsV RX5 185 RX5 yX5_silence wsX5_silence) := goodIn_app (goodIn_of _ (by decide +kernel)) ggX5_hush_X5_silence
theorem dX5_hush_0 : decode cX5_hush 0 = .ok (.aload_n 0, 1) := by decide +kernel
theorem dX5_hush_1 : decode cX5_hush 1 = .ok (.iload_n 1, 1) := by decide +kernel
theorem dX5_hush_2 : decode cX5_hush 2 = .ok (.invokevirtual 134, 3) := by decide +kernel
theorem dX5_hush_5 : decode cX5_hush 5 = .ok (.ifCond .eq 12, 3) := by decide +kernel
theorem dX5_hush_8 : decode cX5_hush 8 = .ok (.iload_n 2, 1) := by decide +kernel
theorem dX5_hush_9 : decode cX5_hush 9 = .ok (.iconst 0, 1) := by decide +kernel
theorem dX5_hush_10 : decode cX5_hush 10 = .ok (.iconst 1, 1) := by decide +kernel
theorem dX5_hush_11 : decode cX5_hush 11 = .ok (.invokestatic 80, 3) := by decide +kernel
theorem dX5_hush_14 : decode cX5_hush 14 = .ok (.ifCond .ne 5, 3) := by decide +kernel
theorem dX5_hush_17 : decode cX5_hush 17 = .ok (.iconst (-1), 1) := by decide +kernel
theorem dX5_hush_18 : decode cX5_hush 18 = .ok (.ireturn, 1) := by decide +kernel
theorem dX5_hush_19 : decode cX5_hush 19 = .ok (.aload_n 0, 1) := by decide +kernel
theorem dX5_hush_20 : decode cX5_hush 20 = .ok (.iload_n 1, 1) := by decide +kernel
theorem dX5_hush_21 : decode cX5_hush 21 = .ok (.invokevirtual 149, 3) := by decide +kernel
theorem dX5_hush_24 : decode cX5_hush 24 = .ok (.ifCond .eq 6, 3) := by decide +kernel
theorem dX5_hush_27 : decode cX5_hush 27 = .ok (.bipush (-4), 2) := by decide +kernel
theorem dX5_hush_29 : decode cX5_hush 29 = .ok (.ireturn, 1) := by decide +kernel
theorem dX5_hush_30 : decode cX5_hush 30 = .ok (.aload_n 0, 1) := by decide +kernel
theorem dX5_hush_31 : decode cX5_hush 31 = .ok (.iconst 1, 1) := by decide +kernel
theorem dX5_hush_32 : decode cX5_hush 32 = .ok (.iload_n 1, 1) := by decide +kernel
theorem dX5_hush_33 : decode cX5_hush 33 = .ok (.ishl, 1) := by decide +kernel
theorem dX5_hush_34 : decode cX5_hush 34 = .ok (.iload_n 2, 1) := by decide +kernel
theorem dX5_hush_35 : decode cX5_hush 35 = .ok (.invokevirtual 185, 3) := by decide +kernel
theorem dX5_hush_38 : decode cX5_hush 38 = .ok (.ireturn, 1) := by decide +kernel
set_option maxRecDepth 20000 in
theorem ggX5_hushAll_X5_isWithin : GoodIn wsX5_hushAll wsX5_isWithin := goodIn_r _ [7] (by decide +kernel) (by decide +kernel)
set_option maxRecDepth 20000 in
theorem gX5_hushAll_X5_isWithin : GoodIn wsX5_hushAll (va_wsS RX5 80 yX5_isWithin wsX5_isWithin) := goodIn_app (goodIn_of _ (by decide +kernel)) ggX5_hushAll_X5_isWithin
set_option maxRecDepth 20000 in
theorem ggX5_hushAll_X0_deedsAsHeavyAs : GoodIn wsX5_hushAll wsX0_deedsAsHeavyAs := goodIn_r _ [12, 13, 14, 82, 83, 84, 85, 86, 87, 88, 89, 90, 91, 92, 93] (by decide +kernel) (by decide +kernel)
set_option maxRecDepth 20000 in
theorem gX5_hushAll_X0_deedsAsHeavyAs : GoodIn wsX5_hushAll (wsV RX5 188 RX0 yX0_deedsAsHeavyAs wsX0_deedsAsHeavyAs) := goodIn_app (goodIn_of _ (by decide +kernel)) ggX5_hushAll_X0_deedsAsHeavyAs
set_option maxRecDepth 20000 in
theorem ggX5_hushAll_X5_silence : GoodIn wsX5_hushAll wsX5_silence := goodIn_r _ [18, 1, 19, 20, 21, 6, 22, 23, 2, 24, 25, 26, 27, 28, 29, 30, 31, 32, 33, 34, 35, 36, 37, 38, 11, 39, 40, 41, 42, 43, 44, 45, 46, 47, 48, 49, 13, 50, 51, 52, 14, 53, 54, 55, 56, 57, 58, 59, 60, 61, 62, 63, 64, 65, 66, 67, 68, 69, 70, 71, 72, 73, 74, 75, 76, 82, 83, 84, 85, 86, 87, 88, 89, 90, 91, 92, 93, 77, 78, 79, 80, 81] (by decide +kernel) (by decide +kernel)
set_option maxRecDepth 20000 in
theorem gX5_hushAll_X5_silence : GoodIn wsX5_hushAll (wsV RX5 185 RX5 yX5_silence wsX5_silence) := goodIn_app (goodIn_of _ (by decide +kernel)) ggX5_hushAll_X5_silence
theorem dX5_hushAll_0 : decode cX5_hushAll 0 = .ok (.iload_n 1, 1) := by decide +kernel
theorem dX5_hushAll_1 : decode cX5_hushAll 1 = .ok (.iconst 1, 1) := by decide +kernel
theorem dX5_hushAll_2 : decode cX5_hushAll 2 = .ok (.bipush 30, 2) := by decide +kernel
theorem dX5_hushAll_4 : decode cX5_hushAll 4 = .ok (.invokestatic 80, 3) := by decide +kernel
theorem dX5_hushAll_7 : decode cX5_hushAll 7 = .ok (.ifCond .eq 12, 3) := by decide +kernel
theorem dX5_hushAll_10 : decode cX5_hushAll 10 = .ok (.iload_n 2, 1) := by decide +kernel
theorem dX5_hushAll_11 : decode cX5_hushAll 11 = .ok (.iconst 0, 1) := by decide +kernel
theorem dX5_hushAll_12 : decode cX5_hushAll 12 = .ok (.iconst 1, 1) := by decide +kernel
theorem dX5_hushAll_13 : decode cX5_hushAll 13 = .ok (.invokestatic 80, 3) := by decide +kernel
theorem dX5_hushAll_16 : decode cX5_hushAll 16 = .ok (.ifCond .ne 5, 3) := by decide +kernel
theorem dX5_hushAll_19 : decode cX5_hushAll 19 = .ok (.iconst (-1), 1) := by decide +kernel
theorem dX5_hushAll_20 : decode cX5_hushAll 20 = .ok (.ireturn, 1) := by decide +kernel
theorem dX5_hushAll_21 : decode cX5_hushAll 21 = .ok (.aload_n 0, 1) := by decide +kernel
theorem dX5_hushAll_22 : decode cX5_hushAll 22 = .ok (.aload_n 0, 1) := by decide +kernel
theorem dX5_hushAll_23 : decode cX5_hushAll 23 = .ok (.getfield 19, 3) := by decide +kernel
theorem dX5_hushAll_26 : decode cX5_hushAll 26 = .ok (.iload_n 1, 1) := by decide +kernel
theorem dX5_hushAll_27 : decode cX5_hushAll 27 = .ok (.invokevirtual 188, 3) := by decide +kernel
theorem dX5_hushAll_30 : decode cX5_hushAll 30 = .ok (.aload_n 0, 1) := by decide +kernel
theorem dX5_hushAll_31 : decode cX5_hushAll 31 = .ok (.getfield 29, 3) := by decide +kernel
theorem dX5_hushAll_34 : decode cX5_hushAll 34 = .ok (.getfield 191, 3) := by decide +kernel
theorem dX5_hushAll_37 : decode cX5_hushAll 37 = .ok (.iconst (-1), 1) := by decide +kernel
theorem dX5_hushAll_38 : decode cX5_hushAll 38 = .ok (.ixor, 1) := by decide +kernel
theorem dX5_hushAll_39 : decode cX5_hushAll 39 = .ok (.iand, 1) := by decide +kernel
theorem dX5_hushAll_40 : decode cX5_hushAll 40 = .ok (.iload_n 2, 1) := by decide +kernel
theorem dX5_hushAll_41 : decode cX5_hushAll 41 = .ok (.invokevirtual 185, 3) := by decide +kernel
theorem dX5_hushAll_44 : decode cX5_hushAll 44 = .ok (.ireturn, 1) := by decide +kernel
set_option maxRecDepth 20000 in
theorem ggX5_hushOne_X5_isPerson : GoodIn wsX5_hushOne wsX5_isPerson := goodIn_r _ [7, 8, 9, 6, 10] (by decide +kernel) (by decide +kernel)
set_option maxRecDepth 20000 in
theorem gX5_hushOne_X5_isPerson : GoodIn wsX5_hushOne (va_wsS RX5 194 yX5_isPerson wsX5_isPerson) := goodIn_app (goodIn_of _ (by decide +kernel)) ggX5_hushOne_X5_isPerson
set_option maxRecDepth 20000 in
theorem ggX5_hushOne_X5_isWithin : GoodIn wsX5_hushOne wsX5_isWithin := goodIn_r _ [10] (by decide +kernel) (by decide +kernel)
set_option maxRecDepth 20000 in
theorem gX5_hushOne_X5_isWithin : GoodIn wsX5_hushOne (va_wsS RX5 80 yX5_isWithin wsX5_isWithin) := goodIn_app (goodIn_of _ (by decide +kernel)) ggX5_hushOne_X5_isWithin
set_option maxRecDepth 20000 in
theorem ggX5_hushOne_X0_deedsOf : GoodIn wsX5_hushOne wsX0_deedsOf := goodIn_r _ [15, 16, 17, 86, 87, 88, 89, 90, 91, 92, 93, 94, 95, 96, 97] (by decide +kernel) (by decide +kernel)
set_option maxRecDepth 20000 in
theorem gX5_hushOne_X0_deedsOf : GoodIn wsX5_hushOne (wsV RX5 197 RX0 yX0_deedsOf wsX0_deedsOf) := goodIn_app (goodIn_of _ (by decide +kernel)) ggX5_hushOne_X0_deedsOf
set_option maxRecDepth 20000 in
theorem ggX5_hushOne_X5_silence : GoodIn wsX5_hushOne wsX5_silence := goodIn_r _ [21, 1, 22, 23, 24, 6, 25, 26, 2, 27, 28, 29, 30, 31, 32, 33, 34, 35, 36, 37, 38, 39, 40, 41, 14, 42, 43, 44, 45, 46, 47, 48, 49, 50, 51, 52, 16, 53, 54, 55, 56, 57, 58, 59, 60, 61, 62, 63, 64, 65, 66, 67, 68, 69, 70, 71, 72, 73, 74, 75, 76, 77, 78, 79, 80, 86, 87, 88, 89, 90, 91, 92, 93, 94, 95, 96, 97, 81, 82, 83, 84, 85] (by decide +kernel) (by decide +kernel)
set_option maxRecDepth 20000 in
theorem gX5_hushOne_X5_silence : GoodIn wsX5_hushOne (wsV RX5 185 RX5 yX5_silence wsX5_silence) := goodIn_app (goodIn_of _ (by decide +kernel)) ggX5_hushOne_X5_silence
theorem dX5_hushOne_0 : decode cX5_hushOne 0 = .ok (.iload_n 1, 1) := by decide +kernel
theorem dX5_hushOne_1 : decode cX5_hushOne 1 = .ok (.invokestatic 194, 3) := by decide +kernel
theorem dX5_hushOne_4 : decode cX5_hushOne 4 = .ok (.ifCond .eq 12, 3) := by decide +kernel
theorem dX5_hushOne_7 : decode cX5_hushOne 7 = .ok (.iload_n 2, 1) := by decide +kernel
theorem dX5_hushOne_8 : decode cX5_hushOne 8 = .ok (.iconst 0, 1) := by decide +kernel
theorem dX5_hushOne_9 : decode cX5_hushOne 9 = .ok (.iconst 1, 1) := by decide +kernel
theorem dX5_hushOne_10 : decode cX5_hushOne 10 = .ok (.invokestatic 80, 3) := by decide +kernel
theorem dX5_hushOne_13 : decode cX5_hushOne 13 = .ok (.ifCond .ne 5, 3) := by decide +kernel
theorem dX5_hushOne_16 : decode cX5_hushOne 16 = .ok (.iconst (-1), 1) := by decide +kernel
theorem dX5_hushOne_17 : decode cX5_hushOne 17 = .ok (.ireturn, 1) := by decide +kernel
theorem dX5_hushOne_18 : decode cX5_hushOne 18 = .ok (.aload_n 0, 1) := by decide +kernel
theorem dX5_hushOne_19 : decode cX5_hushOne 19 = .ok (.aload_n 0, 1) := by decide +kernel
theorem dX5_hushOne_20 : decode cX5_hushOne 20 = .ok (.getfield 19, 3) := by decide +kernel
theorem dX5_hushOne_23 : decode cX5_hushOne 23 = .ok (.iload_n 1, 1) := by decide +kernel
theorem dX5_hushOne_24 : decode cX5_hushOne 24 = .ok (.invokevirtual 197, 3) := by decide +kernel
theorem dX5_hushOne_27 : decode cX5_hushOne 27 = .ok (.aload_n 0, 1) := by decide +kernel
theorem dX5_hushOne_28 : decode cX5_hushOne 28 = .ok (.getfield 29, 3) := by decide +kernel
theorem dX5_hushOne_31 : decode cX5_hushOne 31 = .ok (.getfield 191, 3) := by decide +kernel
theorem dX5_hushOne_34 : decode cX5_hushOne 34 = .ok (.iconst (-1), 1) := by decide +kernel
theorem dX5_hushOne_35 : decode cX5_hushOne 35 = .ok (.ixor, 1) := by decide +kernel
theorem dX5_hushOne_36 : decode cX5_hushOne 36 = .ok (.iand, 1) := by decide +kernel
theorem dX5_hushOne_37 : decode cX5_hushOne 37 = .ok (.iload_n 2, 1) := by decide +kernel
theorem dX5_hushOne_38 : decode cX5_hushOne 38 = .ok (.invokevirtual 185, 3) := by decide +kernel
theorem dX5_hushOne_41 : decode cX5_hushOne 41 = .ok (.ireturn, 1) := by decide +kernel
set_option maxRecDepth 20000 in
theorem ggX5_save_X5_isWithin : GoodIn wsX5_save wsX5_isWithin := goodIn_r _ [8] (by decide +kernel) (by decide +kernel)
set_option maxRecDepth 20000 in
theorem gX5_save_X5_isWithin : GoodIn wsX5_save (va_wsS RX5 80 yX5_isWithin wsX5_isWithin) := goodIn_app (goodIn_of _ (by decide +kernel)) ggX5_save_X5_isWithin
set_option maxRecDepth 20000 in
theorem ggX5_save_X5_fillTold : GoodIn wsX5_save wsX5_fillTold := goodIn_r _ [12, 1, 2, 13, 3, 14, 15, 16, 17, 18, 19, 20, 21, 22, 23, 24, 25, 26, 27, 28, 29, 30, 31, 32, 33, 34, 35, 36, 37, 77, 78, 79, 80, 81, 82, 83, 84, 85, 86, 87, 88, 89, 90, 91, 92, 93, 94, 95, 96, 97, 98, 99, 100, 101, 102, 103] (by decide +kernel) (by decide +kernel)
set_option maxRecDepth 20000 in
theorem gX5_save_X5_fillTold : GoodIn wsX5_save (wsV RX5 200 RX5 yX5_fillTold wsX5_fillTold) := goodIn_app (goodIn_of _ (by decide +kernel)) ggX5_save_X5_fillTold
set_option maxRecDepth 20000 in
theorem ggX5_save_X5_looseOnes : GoodIn wsX5_save wsX5_looseOnes := goodIn_r _ [41, 1, 2, 3, 42, 43, 44, 7, 45, 46, 47, 48, 49, 17, 50, 51, 52, 53, 54, 55, 23, 56, 57, 77, 78, 79, 80, 81, 82, 83, 84, 85, 86, 87, 88, 89, 90, 91, 92, 93, 94, 95, 96, 97, 98, 99, 100, 101, 102, 103] (by decide +kernel) (by decide +kernel)
set_option maxRecDepth 20000 in
theorem gX5_save_X5_looseOnes : GoodIn wsX5_save (wsV RX5 203 RX5 yX5_looseOnes wsX5_looseOnes) := goodIn_app (goodIn_of _ (by decide +kernel)) ggX5_save_X5_looseOnes
set_option maxRecDepth 20000 in
theorem ggX5_save_X5_weightLeft : GoodIn wsX5_save wsX5_weightLeft := goodIn_r _ [61, 1, 3, 62, 63, 64, 65, 7, 66, 2, 13, 67, 68, 69, 23, 70, 25, 29, 77, 78, 79, 80, 81, 82, 83, 84, 85, 86, 99, 100, 101, 102, 103, 87, 88, 89, 90, 91, 92, 93, 94, 95, 96, 97, 98] (by decide +kernel) (by decide +kernel)
set_option maxRecDepth 20000 in
theorem gX5_save_X5_weightLeft : GoodIn wsX5_save (wsV RX5 206 RX5 yX5_weightLeft wsX5_weightLeft) := goodIn_app (goodIn_of _ (by decide +kernel)) ggX5_save_X5_weightLeft
set_option maxRecDepth 20000 in
theorem ggX5_save_X0_priceOf : GoodIn wsX5_save wsX0_priceOf := goodIn_r _ [74, 75, 76, 87, 88, 89, 90, 91, 92, 93, 94, 95, 96, 97, 98] (by decide +kernel) (by decide +kernel)
set_option maxRecDepth 20000 in
theorem gX5_save_X0_priceOf : GoodIn wsX5_save (wsV RX5 209 RX0 yX0_priceOf wsX0_priceOf) := goodIn_app (goodIn_of _ (by decide +kernel)) ggX5_save_X0_priceOf
theorem dX5_save_0 : decode cX5_save 0 = .ok (.iload_n 1, 1) := by decide +kernel
theorem dX5_save_1 : decode cX5_save 1 = .ok (.iconst 0, 1) := by decide +kernel
theorem dX5_save_2 : decode cX5_save 2 = .ok (.iconst 1, 1) := by decide +kernel
theorem dX5_save_3 : decode cX5_save 3 = .ok (.invokestatic 80, 3) := by decide +kernel
theorem dX5_save_6 : decode cX5_save 6 = .ok (.ifCond .ne 5, 3) := by decide +kernel
theorem dX5_save_9 : decode cX5_save 9 = .ok (.iconst (-1), 1) := by decide +kernel
theorem dX5_save_10 : decode cX5_save 10 = .ok (.ireturn, 1) := by decide +kernel
theorem dX5_save_11 : decode cX5_save 11 = .ok (.aload_n 0, 1) := by decide +kernel
theorem dX5_save_12 : decode cX5_save 12 = .ok (.invokevirtual 200, 3) := by decide +kernel
theorem dX5_save_15 : decode cX5_save 15 = .ok (.aload_n 0, 1) := by decide +kernel
theorem dX5_save_16 : decode cX5_save 16 = .ok (.invokevirtual 203, 3) := by decide +kernel
theorem dX5_save_19 : decode cX5_save 19 = .ok (.istore_n 2, 1) := by decide +kernel
theorem dX5_save_20 : decode cX5_save 20 = .ok (.iconst 0, 1) := by decide +kernel
theorem dX5_save_21 : decode cX5_save 21 = .ok (.istore_n 3, 1) := by decide +kernel
theorem dX5_save_22 : decode cX5_save 22 = .ok (.aload_n 0, 1) := by decide +kernel
theorem dX5_save_23 : decode cX5_save 23 = .ok (.iload_n 2, 1) := by decide +kernel
theorem dX5_save_24 : decode cX5_save 24 = .ok (.invokevirtual 206, 3) := by decide +kernel
theorem dX5_save_27 : decode cX5_save 27 = .ok (.istore 4, 2) := by decide +kernel
theorem dX5_save_29 : decode cX5_save 29 = .ok (.iconst 1, 1) := by decide +kernel
theorem dX5_save_30 : decode cX5_save 30 = .ok (.istore 5, 2) := by decide +kernel
theorem dX5_save_32 : decode cX5_save 32 = .ok (.iload 5, 2) := by decide +kernel
theorem dX5_save_34 : decode cX5_save 34 = .ok (.iconst 1, 1) := by decide +kernel
theorem dX5_save_35 : decode cX5_save 35 = .ok (.aload_n 0, 1) := by decide +kernel
theorem dX5_save_36 : decode cX5_save 36 = .ok (.getfield 19, 3) := by decide +kernel
theorem dX5_save_39 : decode cX5_save 39 = .ok (.getfield 91, 3) := by decide +kernel
theorem dX5_save_42 : decode cX5_save 42 = .ok (.ishl, 1) := by decide +kernel
theorem dX5_save_43 : decode cX5_save 43 = .ok (.if_icmp .ge 66, 3) := by decide +kernel
theorem dX5_save_46 : decode cX5_save 46 = .ok (.iload 5, 2) := by decide +kernel
theorem dX5_save_48 : decode cX5_save 48 = .ok (.iload_n 2, 1) := by decide +kernel
theorem dX5_save_49 : decode cX5_save 49 = .ok (.iconst (-1), 1) := by decide +kernel
theorem dX5_save_50 : decode cX5_save 50 = .ok (.ixor, 1) := by decide +kernel
theorem dX5_save_51 : decode cX5_save 51 = .ok (.iand, 1) := by decide +kernel
theorem dX5_save_52 : decode cX5_save 52 = .ok (.ifCond .ne 51, 3) := by decide +kernel
theorem dX5_save_55 : decode cX5_save 55 = .ok (.aload_n 0, 1) := by decide +kernel
theorem dX5_save_56 : decode cX5_save 56 = .ok (.getfield 19, 3) := by decide +kernel
theorem dX5_save_59 : decode cX5_save 59 = .ok (.iload 5, 2) := by decide +kernel
theorem dX5_save_61 : decode cX5_save 61 = .ok (.invokevirtual 209, 3) := by decide +kernel
theorem dX5_save_64 : decode cX5_save 64 = .ok (.aload_n 0, 1) := by decide +kernel
theorem dX5_save_65 : decode cX5_save 65 = .ok (.getfield 29, 3) := by decide +kernel
theorem dX5_save_68 : decode cX5_save 68 = .ok (.getfield 172, 3) := by decide +kernel
theorem dX5_save_71 : decode cX5_save 71 = .ok (.if_icmp .le 6, 3) := by decide +kernel
theorem dX5_save_74 : decode cX5_save 74 = .ok (.goto 29, 3) := by decide +kernel
theorem dX5_save_77 : decode cX5_save 77 = .ok (.aload_n 0, 1) := by decide +kernel
theorem dX5_save_78 : decode cX5_save 78 = .ok (.iload_n 2, 1) := by decide +kernel
theorem dX5_save_79 : decode cX5_save 79 = .ok (.iload 5, 2) := by decide +kernel
theorem dX5_save_81 : decode cX5_save 81 = .ok (.iconst (-1), 1) := by decide +kernel
theorem dX5_save_82 : decode cX5_save 82 = .ok (.ixor, 1) := by decide +kernel
theorem dX5_save_83 : decode cX5_save 83 = .ok (.iand, 1) := by decide +kernel
theorem dX5_save_84 : decode cX5_save 84 = .ok (.invokevirtual 206, 3) := by decide +kernel
theorem dX5_save_87 : decode cX5_save 87 = .ok (.istore 6, 2) := by decide +kernel
theorem dX5_save_89 : decode cX5_save 89 = .ok (.iload 6, 2) := by decide +kernel
theorem dX5_save_91 : decode cX5_save 91 = .ok (.iload 4, 2) := by decide +kernel
theorem dX5_save_93 : decode cX5_save 93 = .ok (.if_icmp .ge 10, 3) := by decide +kernel
theorem dX5_save_96 : decode cX5_save 96 = .ok (.iload 6, 2) := by decide +kernel
theorem dX5_save_98 : decode cX5_save 98 = .ok (.istore 4, 2) := by decide +kernel
theorem dX5_save_100 : decode cX5_save 100 = .ok (.iload 5, 2) := by decide +kernel
theorem dX5_save_102 : decode cX5_save 102 = .ok (.istore_n 3, 1) := by decide +kernel
theorem dX5_save_103 : decode cX5_save 103 = .ok (.iinc 5 1, 3) := by decide +kernel
theorem dX5_save_106 : decode cX5_save 106 = .ok (.goto (-74), 3) := by decide +kernel
theorem dX5_save_109 : decode cX5_save 109 = .ok (.iload_n 1, 1) := by decide +kernel
theorem dX5_save_110 : decode cX5_save 110 = .ok (.ifCond .ne 8, 3) := by decide +kernel
theorem dX5_save_113 : decode cX5_save 113 = .ok (.iload 4, 2) := by decide +kernel
theorem dX5_save_115 : decode cX5_save 115 = .ok (.goto 4, 3) := by decide +kernel
theorem dX5_save_118 : decode cX5_save 118 = .ok (.iload_n 3, 1) := by decide +kernel
theorem dX5_save_119 : decode cX5_save 119 = .ok (.ireturn, 1) := by decide +kernel
set_option maxRecDepth 20000 in
theorem ggX5_together_X5_isPiece : GoodIn wsX5_together wsX5_isPiece := goodIn_r _ [7, 1, 8, 9, 10, 6, 11, 36, 37, 38, 39, 40, 41, 42, 43, 44, 45, 46, 47, 48, 49, 50, 51, 52, 53, 54, 55, 56, 57] (by decide +kernel) (by decide +kernel)
set_option maxRecDepth 20000 in
theorem gX5_together_X5_isPiece : GoodIn wsX5_together (wsV RX5 109 RX5 yX5_isPiece wsX5_isPiece) := goodIn_app (goodIn_of _ (by decide +kernel)) ggX5_together_X5_isPiece
set_option maxRecDepth 20000 in
theorem ggX5_together_X4_roomOf : GoodIn wsX5_together wsX4_roomOf := goodIn_r _ [16, 17, 58, 59, 60, 61, 62] (by decide +kernel) (by decide +kernel)
set_option maxRecDepth 20000 in
theorem gX5_together_X4_roomOf : GoodIn wsX5_together (wsV RX5 116 RX4 yX4_roomOf wsX4_roomOf) := goodIn_app (goodIn_of _ (by decide +kernel)) ggX5_together_X4_roomOf
set_option maxRecDepth 20000 in
theorem ggX5_together_X0_toldBy : GoodIn wsX5_together wsX0_toldBy := goodIn_r _ [22, 23, 24, 25, 26, 27, 28, 29, 30, 21, 31, 32, 33, 34, 35, 46, 47, 48, 49, 50, 51, 52, 53, 54, 55, 56, 57] (by decide +kernel) (by decide +kernel)
set_option maxRecDepth 20000 in
theorem gX5_together_X0_toldBy : GoodIn wsX5_together (wsV RX5 126 RX0 yX0_toldBy wsX0_toldBy) := goodIn_app (goodIn_of _ (by decide +kernel)) ggX5_together_X0_toldBy
theorem dX5_together_0 : decode cX5_together 0 = .ok (.aload_n 0, 1) := by decide +kernel
theorem dX5_together_1 : decode cX5_together 1 = .ok (.iload_n 1, 1) := by decide +kernel
theorem dX5_together_2 : decode cX5_together 2 = .ok (.invokevirtual 109, 3) := by decide +kernel
theorem dX5_together_5 : decode cX5_together 5 = .ok (.ifCond .eq 16, 3) := by decide +kernel
theorem dX5_together_8 : decode cX5_together 8 = .ok (.aload_n 0, 1) := by decide +kernel
theorem dX5_together_9 : decode cX5_together 9 = .ok (.iload_n 2, 1) := by decide +kernel
theorem dX5_together_10 : decode cX5_together 10 = .ok (.invokevirtual 109, 3) := by decide +kernel
theorem dX5_together_13 : decode cX5_together 13 = .ok (.ifCond .eq 8, 3) := by decide +kernel
theorem dX5_together_16 : decode cX5_together 16 = .ok (.iload_n 1, 1) := by decide +kernel
theorem dX5_together_17 : decode cX5_together 17 = .ok (.iload_n 2, 1) := by decide +kernel
theorem dX5_together_18 : decode cX5_together 18 = .ok (.if_icmp .ne 5, 3) := by decide +kernel
theorem dX5_together_21 : decode cX5_together 21 = .ok (.iconst (-1), 1) := by decide +kernel
theorem dX5_together_22 : decode cX5_together 22 = .ok (.ireturn, 1) := by decide +kernel
theorem dX5_together_23 : decode cX5_together 23 = .ok (.aload_n 0, 1) := by decide +kernel
theorem dX5_together_24 : decode cX5_together 24 = .ok (.getfield 19, 3) := by decide +kernel
theorem dX5_together_27 : decode cX5_together 27 = .ok (.iload_n 1, 1) := by decide +kernel
theorem dX5_together_28 : decode cX5_together 28 = .ok (.aload_n 0, 1) := by decide +kernel
theorem dX5_together_29 : decode cX5_together 29 = .ok (.getfield 29, 3) := by decide +kernel
theorem dX5_together_32 : decode cX5_together 32 = .ok (.iload_n 1, 1) := by decide +kernel
theorem dX5_together_33 : decode cX5_together 33 = .ok (.invokevirtual 116, 3) := by decide +kernel
theorem dX5_together_36 : decode cX5_together 36 = .ok (.invokevirtual 126, 3) := by decide +kernel
theorem dX5_together_39 : decode cX5_together 39 = .ok (.aload_n 0, 1) := by decide +kernel
theorem dX5_together_40 : decode cX5_together 40 = .ok (.getfield 19, 3) := by decide +kernel
theorem dX5_together_43 : decode cX5_together 43 = .ok (.iload_n 2, 1) := by decide +kernel
theorem dX5_together_44 : decode cX5_together 44 = .ok (.aload_n 0, 1) := by decide +kernel
theorem dX5_together_45 : decode cX5_together 45 = .ok (.getfield 29, 3) := by decide +kernel
theorem dX5_together_48 : decode cX5_together 48 = .ok (.iload_n 2, 1) := by decide +kernel
theorem dX5_together_49 : decode cX5_together 49 = .ok (.invokevirtual 116, 3) := by decide +kernel
theorem dX5_together_52 : decode cX5_together 52 = .ok (.invokevirtual 126, 3) := by decide +kernel
theorem dX5_together_55 : decode cX5_together 55 = .ok (.iand, 1) := by decide +kernel
theorem dX5_together_56 : decode cX5_together 56 = .ok (.ireturn, 1) := by decide +kernel
set_option maxRecDepth 20000 in
theorem ggX5_cover_X5_isWithin : GoodIn wsX5_cover wsX5_isWithin := goodIn_r _ [6] (by decide +kernel) (by decide +kernel)
set_option maxRecDepth 20000 in
theorem gX5_cover_X5_isWithin : GoodIn wsX5_cover (va_wsS RX5 80 yX5_isWithin wsX5_isWithin) := goodIn_app (goodIn_of _ (by decide +kernel)) ggX5_cover_X5_isWithin
set_option maxRecDepth 20000 in
theorem ggX5_cover_X5_fillTold : GoodIn wsX5_cover wsX5_fillTold := goodIn_r _ [10, 1, 2, 11, 12, 13, 14, 15, 16, 17, 18, 19, 20, 21, 22, 23, 24, 25, 26, 27, 28, 29, 30, 31, 32, 33, 34, 35, 36, 68, 69, 70, 71, 72, 73, 74, 75, 76, 77, 78, 79, 80, 81, 82, 83, 84, 85, 86, 87, 88, 89, 90, 91, 92, 93, 94] (by decide +kernel) (by decide +kernel)
set_option maxRecDepth 20000 in
theorem gX5_cover_X5_fillTold : GoodIn wsX5_cover (wsV RX5 200 RX5 yX5_fillTold wsX5_fillTold) := goodIn_app (goodIn_of _ (by decide +kernel)) ggX5_cover_X5_fillTold
set_option maxRecDepth 20000 in
theorem ggX5_cover_X5_looseOnes : GoodIn wsX5_cover wsX5_looseOnes := goodIn_r _ [40, 1, 2, 12, 41, 42, 43, 5, 44, 45, 46, 47, 48, 16, 49, 50, 51, 52, 53, 54, 22, 55, 56, 68, 69, 70, 71, 72, 73, 74, 75, 76, 77, 78, 79, 80, 81, 82, 83, 84, 85, 86, 87, 88, 89, 90, 91, 92, 93, 94] (by decide +kernel) (by decide +kernel)
set_option maxRecDepth 20000 in
theorem gX5_cover_X5_looseOnes : GoodIn wsX5_cover (wsV RX5 203 RX5 yX5_looseOnes wsX5_looseOnes) := goodIn_app (goodIn_of _ (by decide +kernel)) ggX5_cover_X5_looseOnes
set_option maxRecDepth 20000 in
theorem ggX5_cover_X5_toldBySet : GoodIn wsX5_cover wsX5_toldBySet := goodIn_r _ [60, 1, 2, 11, 68, 69, 70, 71, 72, 73, 74, 75, 76, 77, 78, 79, 80, 81, 82, 83, 84, 85, 86, 87, 88, 89] (by decide +kernel) (by decide +kernel)
set_option maxRecDepth 20000 in
theorem gX5_cover_X5_toldBySet : GoodIn wsX5_cover (wsV RX5 212 RX5 yX5_toldBySet wsX5_toldBySet) := goodIn_app (goodIn_of _ (by decide +kernel)) ggX5_cover_X5_toldBySet
set_option maxRecDepth 20000 in
theorem ggX5_cover_J6_bitCount_0f7a4 : GoodIn wsX5_cover wsJ6_bitCount_0f7a4 := goodIn_r _ [64, 65, 66, 67] (by decide +kernel) (by decide +kernel)
set_option maxRecDepth 20000 in
theorem gX5_cover_J6_bitCount_0f7a4 : GoodIn wsX5_cover (va_wsS RX5 215 yJ6_bitCount_0f7a4 wsJ6_bitCount_0f7a4) := goodIn_app (goodIn_of _ (by decide +kernel)) ggX5_cover_J6_bitCount_0f7a4
theorem dX5_cover_0 : decode cX5_cover 0 = .ok (.iload_n 1, 1) := by decide +kernel
theorem dX5_cover_1 : decode cX5_cover 1 = .ok (.iconst 0, 1) := by decide +kernel
theorem dX5_cover_2 : decode cX5_cover 2 = .ok (.iconst 1, 1) := by decide +kernel
theorem dX5_cover_3 : decode cX5_cover 3 = .ok (.invokestatic 80, 3) := by decide +kernel
theorem dX5_cover_6 : decode cX5_cover 6 = .ok (.ifCond .ne 5, 3) := by decide +kernel
theorem dX5_cover_9 : decode cX5_cover 9 = .ok (.iconst (-1), 1) := by decide +kernel
theorem dX5_cover_10 : decode cX5_cover 10 = .ok (.ireturn, 1) := by decide +kernel
theorem dX5_cover_11 : decode cX5_cover 11 = .ok (.aload_n 0, 1) := by decide +kernel
theorem dX5_cover_12 : decode cX5_cover 12 = .ok (.invokevirtual 200, 3) := by decide +kernel
theorem dX5_cover_15 : decode cX5_cover 15 = .ok (.aload_n 0, 1) := by decide +kernel
theorem dX5_cover_16 : decode cX5_cover 16 = .ok (.invokevirtual 203, 3) := by decide +kernel
theorem dX5_cover_19 : decode cX5_cover 19 = .ok (.istore_n 2, 1) := by decide +kernel
theorem dX5_cover_20 : decode cX5_cover 20 = .ok (.aload_n 0, 1) := by decide +kernel
theorem dX5_cover_21 : decode cX5_cover 21 = .ok (.iload_n 2, 1) := by decide +kernel
theorem dX5_cover_22 : decode cX5_cover 22 = .ok (.invokevirtual 212, 3) := by decide +kernel
theorem dX5_cover_25 : decode cX5_cover 25 = .ok (.istore_n 3, 1) := by decide +kernel
theorem dX5_cover_26 : decode cX5_cover 26 = .ok (.iload_n 2, 1) := by decide +kernel
theorem dX5_cover_27 : decode cX5_cover 27 = .ok (.istore 4, 2) := by decide +kernel
theorem dX5_cover_29 : decode cX5_cover 29 = .ok (.bipush 9, 2) := by decide +kernel
theorem dX5_cover_31 : decode cX5_cover 31 = .ok (.istore 5, 2) := by decide +kernel
theorem dX5_cover_33 : decode cX5_cover 33 = .ok (.iconst 0, 1) := by decide +kernel
theorem dX5_cover_34 : decode cX5_cover 34 = .ok (.istore 6, 2) := by decide +kernel
theorem dX5_cover_36 : decode cX5_cover 36 = .ok (.iload 6, 2) := by decide +kernel
theorem dX5_cover_38 : decode cX5_cover 38 = .ok (.iconst 1, 1) := by decide +kernel
theorem dX5_cover_39 : decode cX5_cover 39 = .ok (.aload_n 0, 1) := by decide +kernel
theorem dX5_cover_40 : decode cX5_cover 40 = .ok (.getfield 19, 3) := by decide +kernel
theorem dX5_cover_43 : decode cX5_cover 43 = .ok (.getfield 91, 3) := by decide +kernel
theorem dX5_cover_46 : decode cX5_cover 46 = .ok (.ishl, 1) := by decide +kernel
theorem dX5_cover_47 : decode cX5_cover 47 = .ok (.if_icmp .ge 50, 3) := by decide +kernel
theorem dX5_cover_50 : decode cX5_cover 50 = .ok (.iload 6, 2) := by decide +kernel
theorem dX5_cover_52 : decode cX5_cover 52 = .ok (.invokestatic 215, 3) := by decide +kernel
theorem dX5_cover_55 : decode cX5_cover 55 = .ok (.istore 7, 2) := by decide +kernel
theorem dX5_cover_57 : decode cX5_cover 57 = .ok (.iload 6, 2) := by decide +kernel
theorem dX5_cover_59 : decode cX5_cover 59 = .ok (.iload_n 2, 1) := by decide +kernel
theorem dX5_cover_60 : decode cX5_cover 60 = .ok (.iconst (-1), 1) := by decide +kernel
theorem dX5_cover_61 : decode cX5_cover 61 = .ok (.ixor, 1) := by decide +kernel
theorem dX5_cover_62 : decode cX5_cover 62 = .ok (.iand, 1) := by decide +kernel
theorem dX5_cover_63 : decode cX5_cover 63 = .ok (.ifCond .ne 28, 3) := by decide +kernel
theorem dX5_cover_66 : decode cX5_cover 66 = .ok (.iload 7, 2) := by decide +kernel
theorem dX5_cover_68 : decode cX5_cover 68 = .ok (.iload 5, 2) := by decide +kernel
theorem dX5_cover_70 : decode cX5_cover 70 = .ok (.if_icmp .ge 21, 3) := by decide +kernel
theorem dX5_cover_73 : decode cX5_cover 73 = .ok (.aload_n 0, 1) := by decide +kernel
theorem dX5_cover_74 : decode cX5_cover 74 = .ok (.iload 6, 2) := by decide +kernel
theorem dX5_cover_76 : decode cX5_cover 76 = .ok (.invokevirtual 212, 3) := by decide +kernel
theorem dX5_cover_79 : decode cX5_cover 79 = .ok (.iload_n 3, 1) := by decide +kernel
theorem dX5_cover_80 : decode cX5_cover 80 = .ok (.if_icmp .ne 11, 3) := by decide +kernel
theorem dX5_cover_83 : decode cX5_cover 83 = .ok (.iload 7, 2) := by decide +kernel
theorem dX5_cover_85 : decode cX5_cover 85 = .ok (.istore 5, 2) := by decide +kernel
theorem dX5_cover_87 : decode cX5_cover 87 = .ok (.iload 6, 2) := by decide +kernel
theorem dX5_cover_89 : decode cX5_cover 89 = .ok (.istore 4, 2) := by decide +kernel
theorem dX5_cover_91 : decode cX5_cover 91 = .ok (.iinc 6 1, 3) := by decide +kernel
theorem dX5_cover_94 : decode cX5_cover 94 = .ok (.goto (-58), 3) := by decide +kernel
theorem dX5_cover_97 : decode cX5_cover 97 = .ok (.iload_n 1, 1) := by decide +kernel
theorem dX5_cover_98 : decode cX5_cover 98 = .ok (.ifCond .ne 11, 3) := by decide +kernel
theorem dX5_cover_101 : decode cX5_cover 101 = .ok (.iload 4, 2) := by decide +kernel
theorem dX5_cover_103 : decode cX5_cover 103 = .ok (.invokestatic 215, 3) := by decide +kernel
theorem dX5_cover_106 : decode cX5_cover 106 = .ok (.goto 5, 3) := by decide +kernel
theorem dX5_cover_109 : decode cX5_cover 109 = .ok (.iload 4, 2) := by decide +kernel
theorem dX5_cover_111 : decode cX5_cover 111 = .ok (.ireturn, 1) := by decide +kernel
set_option maxRecDepth 20000 in
theorem ggX5_safe_X5_isWithin : GoodIn wsX5_safe wsX5_isWithin := goodIn_r _ [9] (by decide +kernel) (by decide +kernel)
set_option maxRecDepth 20000 in
theorem gX5_safe_X5_isWithin : GoodIn wsX5_safe (va_wsS RX5 80 yX5_isWithin wsX5_isWithin) := goodIn_app (goodIn_of _ (by decide +kernel)) ggX5_safe_X5_isWithin
set_option maxRecDepth 20000 in
theorem ggX5_safe_X4_roomOf : GoodIn wsX5_safe wsX4_roomOf := goodIn_r _ [14, 15, 65, 66, 67, 68, 69] (by decide +kernel) (by decide +kernel)
set_option maxRecDepth 20000 in
theorem gX5_safe_X4_roomOf : GoodIn wsX5_safe (wsV RX5 116 RX4 yX4_roomOf wsX4_roomOf) := goodIn_app (goodIn_of _ (by decide +kernel)) ggX5_safe_X4_roomOf
set_option maxRecDepth 20000 in
theorem ggX5_safe_X5_isLoose : GoodIn wsX5_safe wsX5_isLoose := goodIn_r _ [19, 1, 4, 20, 21, 22, 13, 23, 24, 25, 26, 27, 28, 29, 30, 31, 43, 44, 45, 46, 47, 48, 49, 50, 51, 52, 53, 54, 55, 56, 57, 58, 59, 60, 61, 62, 63, 64, 65, 66, 67, 68, 69] (by decide +kernel) (by decide +kernel)
set_option maxRecDepth 20000 in
theorem gX5_safe_X5_isLoose : GoodIn wsX5_safe (wsV RX5 130 RX5 yX5_isLoose wsX5_isLoose) := goodIn_app (goodIn_of _ (by decide +kernel)) ggX5_safe_X5_isLoose
set_option maxRecDepth 20000 in
theorem ggX5_safe_X0_wouldTell : GoodIn wsX5_safe wsX0_wouldTell := goodIn_r _ [35, 36, 37, 38, 29, 39, 40, 41, 42, 53, 54, 55, 56, 57, 58, 59, 60, 61, 62, 63, 64] (by decide +kernel) (by decide +kernel)
set_option maxRecDepth 20000 in
theorem gX5_safe_X0_wouldTell : GoodIn wsX5_safe (wsV RX5 223 RX0 yX0_wouldTell wsX0_wouldTell) := goodIn_app (goodIn_of _ (by decide +kernel)) ggX5_safe_X0_wouldTell
theorem dX5_safe_0 : decode cX5_safe 0 = .ok (.iload_n 1, 1) := by decide +kernel
theorem dX5_safe_1 : decode cX5_safe 1 = .ok (.iconst 0, 1) := by decide +kernel
theorem dX5_safe_2 : decode cX5_safe 2 = .ok (.bipush 23, 2) := by decide +kernel
theorem dX5_safe_4 : decode cX5_safe 4 = .ok (.invokestatic 80, 3) := by decide +kernel
theorem dX5_safe_7 : decode cX5_safe 7 = .ok (.ifCond .eq 13, 3) := by decide +kernel
theorem dX5_safe_10 : decode cX5_safe 10 = .ok (.iload_n 2, 1) := by decide +kernel
theorem dX5_safe_11 : decode cX5_safe 11 = .ok (.iconst 1, 1) := by decide +kernel
theorem dX5_safe_12 : decode cX5_safe 12 = .ok (.bipush 30, 2) := by decide +kernel
theorem dX5_safe_14 : decode cX5_safe 14 = .ok (.invokestatic 80, 3) := by decide +kernel
theorem dX5_safe_17 : decode cX5_safe 17 = .ok (.ifCond .ne 5, 3) := by decide +kernel
theorem dX5_safe_20 : decode cX5_safe 20 = .ok (.iconst (-1), 1) := by decide +kernel
theorem dX5_safe_21 : decode cX5_safe 21 = .ok (.ireturn, 1) := by decide +kernel
theorem dX5_safe_22 : decode cX5_safe 22 = .ok (.bipush 15, 2) := by decide +kernel
theorem dX5_safe_24 : decode cX5_safe 24 = .ok (.istore_n 3, 1) := by decide +kernel
theorem dX5_safe_25 : decode cX5_safe 25 = .ok (.iconst 0, 1) := by decide +kernel
theorem dX5_safe_26 : decode cX5_safe 26 = .ok (.istore 4, 2) := by decide +kernel
theorem dX5_safe_28 : decode cX5_safe 28 = .ok (.iload 4, 2) := by decide +kernel
theorem dX5_safe_30 : decode cX5_safe 30 = .ok (.aload_n 0, 1) := by decide +kernel
theorem dX5_safe_31 : decode cX5_safe 31 = .ok (.getfield 19, 3) := by decide +kernel
theorem dX5_safe_34 : decode cX5_safe 34 = .ok (.getfield 91, 3) := by decide +kernel
theorem dX5_safe_37 : decode cX5_safe 37 = .ok (.if_icmp .ge 73, 3) := by decide +kernel
theorem dX5_safe_40 : decode cX5_safe 40 = .ok (.aload_n 0, 1) := by decide +kernel
theorem dX5_safe_41 : decode cX5_safe 41 = .ok (.getfield 29, 3) := by decide +kernel
theorem dX5_safe_44 : decode cX5_safe 44 = .ok (.iload 4, 2) := by decide +kernel
theorem dX5_safe_46 : decode cX5_safe 46 = .ok (.invokevirtual 116, 3) := by decide +kernel
theorem dX5_safe_49 : decode cX5_safe 49 = .ok (.istore 5, 2) := by decide +kernel
theorem dX5_safe_51 : decode cX5_safe 51 = .ok (.aload_n 0, 1) := by decide +kernel
theorem dX5_safe_52 : decode cX5_safe 52 = .ok (.aload_n 0, 1) := by decide +kernel
theorem dX5_safe_53 : decode cX5_safe 53 = .ok (.getfield 29, 3) := by decide +kernel
theorem dX5_safe_56 : decode cX5_safe 56 = .ok (.iload 4, 2) := by decide +kernel
theorem dX5_safe_58 : decode cX5_safe 58 = .ok (.invokevirtual 130, 3) := by decide +kernel
theorem dX5_safe_61 : decode cX5_safe 61 = .ok (.ifCond .eq 43, 3) := by decide +kernel
theorem dX5_safe_64 : decode cX5_safe 64 = .ok (.aload_n 0, 1) := by decide +kernel
theorem dX5_safe_65 : decode cX5_safe 65 = .ok (.getfield 19, 3) := by decide +kernel
theorem dX5_safe_68 : decode cX5_safe 68 = .ok (.aload_n 0, 1) := by decide +kernel
theorem dX5_safe_69 : decode cX5_safe 69 = .ok (.getfield 19, 3) := by decide +kernel
theorem dX5_safe_72 : decode cX5_safe 72 = .ok (.getfield 113, 3) := by decide +kernel
theorem dX5_safe_75 : decode cX5_safe 75 = .ok (.iload 4, 2) := by decide +kernel
theorem dX5_safe_77 : decode cX5_safe 77 = .ok (.iaload, 1) := by decide +kernel
theorem dX5_safe_78 : decode cX5_safe 78 = .ok (.iload 5, 2) := by decide +kernel
theorem dX5_safe_80 : decode cX5_safe 80 = .ok (.aload_n 0, 1) := by decide +kernel
theorem dX5_safe_81 : decode cX5_safe 81 = .ok (.getfield 19, 3) := by decide +kernel
theorem dX5_safe_84 : decode cX5_safe 84 = .ok (.getfield 220, 3) := by decide +kernel
theorem dX5_safe_87 : decode cX5_safe 87 = .ok (.iload_n 1, 1) := by decide +kernel
theorem dX5_safe_88 : decode cX5_safe 88 = .ok (.iload_n 2, 1) := by decide +kernel
theorem dX5_safe_89 : decode cX5_safe 89 = .ok (.invokevirtual 223, 3) := by decide +kernel
theorem dX5_safe_92 : decode cX5_safe 92 = .ok (.ifCond .eq 12, 3) := by decide +kernel
theorem dX5_safe_95 : decode cX5_safe 95 = .ok (.iload_n 3, 1) := by decide +kernel
theorem dX5_safe_96 : decode cX5_safe 96 = .ok (.iconst 1, 1) := by decide +kernel
theorem dX5_safe_97 : decode cX5_safe 97 = .ok (.iload 5, 2) := by decide +kernel
theorem dX5_safe_99 : decode cX5_safe 99 = .ok (.ishl, 1) := by decide +kernel
theorem dX5_safe_100 : decode cX5_safe 100 = .ok (.iconst (-1), 1) := by decide +kernel
theorem dX5_safe_101 : decode cX5_safe 101 = .ok (.ixor, 1) := by decide +kernel
theorem dX5_safe_102 : decode cX5_safe 102 = .ok (.iand, 1) := by decide +kernel
theorem dX5_safe_103 : decode cX5_safe 103 = .ok (.istore_n 3, 1) := by decide +kernel
theorem dX5_safe_104 : decode cX5_safe 104 = .ok (.iinc 4 1, 3) := by decide +kernel
theorem dX5_safe_107 : decode cX5_safe 107 = .ok (.goto (-79), 3) := by decide +kernel
theorem dX5_safe_110 : decode cX5_safe 110 = .ok (.iload_n 3, 1) := by decide +kernel
theorem dX5_safe_111 : decode cX5_safe 111 = .ok (.ireturn, 1) := by decide +kernel
set_option maxRecDepth 20000 in
theorem ggX5_dealer_X5_fillTold : GoodIn wsX5_dealer wsX5_fillTold := goodIn_r _ [10, 3, 4, 5, 1, 11, 12, 13, 14, 15, 16, 17, 18, 19, 20, 21, 22, 23, 24, 25, 26, 27, 28, 29, 30, 31, 32, 33, 34, 63, 64, 65, 66, 67, 68, 69, 70, 71, 72, 78, 79, 80, 81, 82, 83, 84, 85, 86, 87, 88, 89, 73, 74, 75, 76, 77] (by decide +kernel) (by decide +kernel)
set_option maxRecDepth 20000 in
theorem gX5_dealer_X5_fillTold : GoodIn wsX5_dealer (wsV RX5 200 RX5 yX5_fillTold wsX5_fillTold) := goodIn_app (goodIn_of _ (by decide +kernel)) ggX5_dealer_X5_fillTold
set_option maxRecDepth 20000 in
theorem ggX5_dealer_X5_looseOnes : GoodIn wsX5_dealer wsX5_looseOnes := goodIn_r _ [38, 3, 4, 1, 39, 40, 41, 9, 42, 43, 44, 45, 46, 14, 47, 48, 49, 50, 51, 52, 20, 53, 54, 63, 64, 65, 66, 67, 68, 69, 70, 71, 72, 78, 79, 80, 81, 82, 83, 84, 85, 86, 87, 88, 89, 73, 74, 75, 76, 77] (by decide +kernel) (by decide +kernel)
set_option maxRecDepth 20000 in
theorem gX5_dealer_X5_looseOnes : GoodIn wsX5_dealer (wsV RX5 203 RX5 yX5_looseOnes wsX5_looseOnes) := goodIn_app (goodIn_of _ (by decide +kernel)) ggX5_dealer_X5_looseOnes
set_option maxRecDepth 20000 in
theorem ggX5_dealer_X5_loudest : GoodIn wsX5_dealer wsX5_loudest := goodIn_r _ [58, 3, 4, 5, 59, 60, 61, 20, 62, 22, 26, 63, 64, 65, 66, 67, 68, 69, 70, 71, 72, 78, 79, 80, 81, 82, 83, 84, 85, 86, 87, 88, 89] (by decide +kernel) (by decide +kernel)
set_option maxRecDepth 20000 in
theorem gX5_dealer_X5_loudest : GoodIn wsX5_dealer (wsV RX5 227 RX5 yX5_loudest wsX5_loudest) := goodIn_app (goodIn_of _ (by decide +kernel)) ggX5_dealer_X5_loudest
set_option maxRecDepth 20000 in
theorem ggX5_dealer_X0_weightOf : GoodIn wsX5_dealer wsX0_weightOf := goodIn_r _ [62, 22, 26, 78, 79, 80, 81, 82, 83, 84, 85, 86, 87, 88, 89] (by decide +kernel) (by decide +kernel)
set_option maxRecDepth 20000 in
theorem gX5_dealer_X0_weightOf : GoodIn wsX5_dealer (wsV RX5 230 RX0 yX0_weightOf wsX0_weightOf) := goodIn_app (goodIn_of _ (by decide +kernel)) ggX5_dealer_X0_weightOf
theorem dX5_dealer_0 : decode cX5_dealer 0 = .ok (.iload_n 1, 1) := by decide +kernel
theorem dX5_dealer_1 : decode cX5_dealer 1 = .ok (.iconst (-1), 1) := by decide +kernel
theorem dX5_dealer_2 : decode cX5_dealer 2 = .ok (.if_icmp .ge 5, 3) := by decide +kernel
theorem dX5_dealer_5 : decode cX5_dealer 5 = .ok (.iconst (-1), 1) := by decide +kernel
theorem dX5_dealer_6 : decode cX5_dealer 6 = .ok (.ireturn, 1) := by decide +kernel
theorem dX5_dealer_7 : decode cX5_dealer 7 = .ok (.aload_n 0, 1) := by decide +kernel
theorem dX5_dealer_8 : decode cX5_dealer 8 = .ok (.invokevirtual 200, 3) := by decide +kernel
theorem dX5_dealer_11 : decode cX5_dealer 11 = .ok (.aload_n 0, 1) := by decide +kernel
theorem dX5_dealer_12 : decode cX5_dealer 12 = .ok (.invokevirtual 203, 3) := by decide +kernel
theorem dX5_dealer_15 : decode cX5_dealer 15 = .ok (.istore_n 2, 1) := by decide +kernel
theorem dX5_dealer_16 : decode cX5_dealer 16 = .ok (.aload_n 0, 1) := by decide +kernel
theorem dX5_dealer_17 : decode cX5_dealer 17 = .ok (.getfield 29, 3) := by decide +kernel
theorem dX5_dealer_20 : decode cX5_dealer 20 = .ok (.getfield 191, 3) := by decide +kernel
theorem dX5_dealer_23 : decode cX5_dealer 23 = .ok (.istore_n 3, 1) := by decide +kernel
theorem dX5_dealer_24 : decode cX5_dealer 24 = .ok (.iconst 0, 1) := by decide +kernel
theorem dX5_dealer_25 : decode cX5_dealer 25 = .ok (.istore 4, 2) := by decide +kernel
theorem dX5_dealer_27 : decode cX5_dealer 27 = .ok (.iconst 0, 1) := by decide +kernel
theorem dX5_dealer_28 : decode cX5_dealer 28 = .ok (.istore 5, 2) := by decide +kernel
theorem dX5_dealer_30 : decode cX5_dealer 30 = .ok (.iload 5, 2) := by decide +kernel
theorem dX5_dealer_32 : decode cX5_dealer 32 = .ok (.aload_n 0, 1) := by decide +kernel
theorem dX5_dealer_33 : decode cX5_dealer 33 = .ok (.getfield 19, 3) := by decide +kernel
theorem dX5_dealer_36 : decode cX5_dealer 36 = .ok (.getfield 91, 3) := by decide +kernel
theorem dX5_dealer_39 : decode cX5_dealer 39 = .ok (.if_icmp .ge 67, 3) := by decide +kernel
theorem dX5_dealer_42 : decode cX5_dealer 42 = .ok (.aload_n 0, 1) := by decide +kernel
theorem dX5_dealer_43 : decode cX5_dealer 43 = .ok (.iload_n 2, 1) := by decide +kernel
theorem dX5_dealer_44 : decode cX5_dealer 44 = .ok (.iload_n 3, 1) := by decide +kernel
theorem dX5_dealer_45 : decode cX5_dealer 45 = .ok (.invokevirtual 227, 3) := by decide +kernel
theorem dX5_dealer_48 : decode cX5_dealer 48 = .ok (.istore 6, 2) := by decide +kernel
theorem dX5_dealer_50 : decode cX5_dealer 50 = .ok (.iload 6, 2) := by decide +kernel
theorem dX5_dealer_52 : decode cX5_dealer 52 = .ok (.ifCond .ge 6, 3) := by decide +kernel
theorem dX5_dealer_55 : decode cX5_dealer 55 = .ok (.goto 51, 3) := by decide +kernel
theorem dX5_dealer_58 : decode cX5_dealer 58 = .ok (.iload 5, 2) := by decide +kernel
theorem dX5_dealer_60 : decode cX5_dealer 60 = .ok (.iload_n 1, 1) := by decide +kernel
theorem dX5_dealer_61 : decode cX5_dealer 61 = .ok (.if_icmp .ne 6, 3) := by decide +kernel
theorem dX5_dealer_64 : decode cX5_dealer 64 = .ok (.iload 6, 2) := by decide +kernel
theorem dX5_dealer_66 : decode cX5_dealer 66 = .ok (.ireturn, 1) := by decide +kernel
theorem dX5_dealer_67 : decode cX5_dealer 67 = .ok (.iload 4, 2) := by decide +kernel
theorem dX5_dealer_69 : decode cX5_dealer 69 = .ok (.aload_n 0, 1) := by decide +kernel
theorem dX5_dealer_70 : decode cX5_dealer 70 = .ok (.getfield 19, 3) := by decide +kernel
theorem dX5_dealer_73 : decode cX5_dealer 73 = .ok (.aload_n 0, 1) := by decide +kernel
theorem dX5_dealer_74 : decode cX5_dealer 74 = .ok (.getfield 54, 3) := by decide +kernel
theorem dX5_dealer_77 : decode cX5_dealer 77 = .ok (.iload 6, 2) := by decide +kernel
theorem dX5_dealer_79 : decode cX5_dealer 79 = .ok (.iaload, 1) := by decide +kernel
theorem dX5_dealer_80 : decode cX5_dealer 80 = .ok (.iload_n 3, 1) := by decide +kernel
theorem dX5_dealer_81 : decode cX5_dealer 81 = .ok (.iconst (-1), 1) := by decide +kernel
theorem dX5_dealer_82 : decode cX5_dealer 82 = .ok (.ixor, 1) := by decide +kernel
theorem dX5_dealer_83 : decode cX5_dealer 83 = .ok (.iand, 1) := by decide +kernel
theorem dX5_dealer_84 : decode cX5_dealer 84 = .ok (.invokevirtual 230, 3) := by decide +kernel
theorem dX5_dealer_87 : decode cX5_dealer 87 = .ok (.iadd, 1) := by decide +kernel
theorem dX5_dealer_88 : decode cX5_dealer 88 = .ok (.istore 4, 2) := by decide +kernel
theorem dX5_dealer_90 : decode cX5_dealer 90 = .ok (.iload_n 3, 1) := by decide +kernel
theorem dX5_dealer_91 : decode cX5_dealer 91 = .ok (.aload_n 0, 1) := by decide +kernel
theorem dX5_dealer_92 : decode cX5_dealer 92 = .ok (.getfield 54, 3) := by decide +kernel
theorem dX5_dealer_95 : decode cX5_dealer 95 = .ok (.iload 6, 2) := by decide +kernel
theorem dX5_dealer_97 : decode cX5_dealer 97 = .ok (.iaload, 1) := by decide +kernel
theorem dX5_dealer_98 : decode cX5_dealer 98 = .ok (.ior, 1) := by decide +kernel
theorem dX5_dealer_99 : decode cX5_dealer 99 = .ok (.istore_n 3, 1) := by decide +kernel
theorem dX5_dealer_100 : decode cX5_dealer 100 = .ok (.iinc 5 1, 3) := by decide +kernel
theorem dX5_dealer_103 : decode cX5_dealer 103 = .ok (.goto (-73), 3) := by decide +kernel
theorem dX5_dealer_106 : decode cX5_dealer 106 = .ok (.iload_n 1, 1) := by decide +kernel
theorem dX5_dealer_107 : decode cX5_dealer 107 = .ok (.iconst (-1), 1) := by decide +kernel
theorem dX5_dealer_108 : decode cX5_dealer 108 = .ok (.if_icmp .ne 8, 3) := by decide +kernel
theorem dX5_dealer_111 : decode cX5_dealer 111 = .ok (.iload 4, 2) := by decide +kernel
theorem dX5_dealer_113 : decode cX5_dealer 113 = .ok (.goto 5, 3) := by decide +kernel
theorem dX5_dealer_116 : decode cX5_dealer 116 = .ok (.bipush (-4), 2) := by decide +kernel
theorem dX5_dealer_118 : decode cX5_dealer 118 = .ok (.ireturn, 1) := by decide +kernel
set_option maxRecDepth 20000 in
theorem ggX5_ruin_X5_isPerson : GoodIn wsX5_ruin wsX5_isPerson := goodIn_r _ [7, 8, 9, 6, 10] (by decide +kernel) (by decide +kernel)
set_option maxRecDepth 20000 in
theorem gX5_ruin_X5_isPerson : GoodIn wsX5_ruin (va_wsS RX5 194 yX5_isPerson wsX5_isPerson) := goodIn_app (goodIn_of _ (by decide +kernel)) ggX5_ruin_X5_isPerson
set_option maxRecDepth 20000 in
theorem ggX5_ruin_X0_deedsOf : GoodIn wsX5_ruin wsX0_deedsOf := goodIn_r _ [15, 16, 17, 38, 39, 40, 41, 42, 43, 44, 45, 46, 47, 48, 49] (by decide +kernel) (by decide +kernel)
set_option maxRecDepth 20000 in
theorem gX5_ruin_X0_deedsOf : GoodIn wsX5_ruin (wsV RX5 197 RX0 yX0_deedsOf wsX0_deedsOf) := goodIn_app (goodIn_of _ (by decide +kernel)) ggX5_ruin_X0_deedsOf
set_option maxRecDepth 20000 in
theorem ggX5_ruin_X0_weightOf : GoodIn wsX5_ruin wsX0_weightOf := goodIn_r _ [21, 16, 22, 38, 39, 40, 41, 42, 43, 44, 45, 46, 47, 48, 49] (by decide +kernel) (by decide +kernel)
set_option maxRecDepth 20000 in
theorem gX5_ruin_X0_weightOf : GoodIn wsX5_ruin (wsV RX5 230 RX0 yX0_weightOf wsX0_weightOf) := goodIn_app (goodIn_of _ (by decide +kernel)) ggX5_ruin_X0_weightOf
theorem dX5_ruin_0 : decode cX5_ruin 0 = .ok (.iload_n 1, 1) := by decide +kernel
theorem dX5_ruin_1 : decode cX5_ruin 1 = .ok (.invokestatic 194, 3) := by decide +kernel
theorem dX5_ruin_4 : decode cX5_ruin 4 = .ok (.ifCond .ne 5, 3) := by decide +kernel
theorem dX5_ruin_7 : decode cX5_ruin 7 = .ok (.iconst (-1), 1) := by decide +kernel
theorem dX5_ruin_8 : decode cX5_ruin 8 = .ok (.ireturn, 1) := by decide +kernel
theorem dX5_ruin_9 : decode cX5_ruin 9 = .ok (.aload_n 0, 1) := by decide +kernel
theorem dX5_ruin_10 : decode cX5_ruin 10 = .ok (.getfield 19, 3) := by decide +kernel
theorem dX5_ruin_13 : decode cX5_ruin 13 = .ok (.aload_n 0, 1) := by decide +kernel
theorem dX5_ruin_14 : decode cX5_ruin 14 = .ok (.getfield 19, 3) := by decide +kernel
theorem dX5_ruin_17 : decode cX5_ruin 17 = .ok (.iload_n 1, 1) := by decide +kernel
theorem dX5_ruin_18 : decode cX5_ruin 18 = .ok (.invokevirtual 197, 3) := by decide +kernel
theorem dX5_ruin_21 : decode cX5_ruin 21 = .ok (.aload_n 0, 1) := by decide +kernel
theorem dX5_ruin_22 : decode cX5_ruin 22 = .ok (.getfield 29, 3) := by decide +kernel
theorem dX5_ruin_25 : decode cX5_ruin 25 = .ok (.getfield 191, 3) := by decide +kernel
theorem dX5_ruin_28 : decode cX5_ruin 28 = .ok (.iand, 1) := by decide +kernel
theorem dX5_ruin_29 : decode cX5_ruin 29 = .ok (.invokevirtual 230, 3) := by decide +kernel
theorem dX5_ruin_32 : decode cX5_ruin 32 = .ok (.ireturn, 1) := by decide +kernel
set_option maxRecDepth 20000 in
theorem ggX5_seen_X5_isPiece : GoodIn wsX5_seen wsX5_isPiece := goodIn_r _ [7, 8, 9, 10, 11, 6, 12, 27, 28, 29, 30, 31, 32, 33, 34, 35, 36, 41, 42, 43, 44, 45, 46, 47, 48, 49, 50, 51, 52] (by decide +kernel) (by decide +kernel)
set_option maxRecDepth 20000 in
theorem gX5_seen_X5_isPiece : GoodIn wsX5_seen (wsV RX5 109 RX5 yX5_isPiece wsX5_isPiece) := goodIn_app (goodIn_of _ (by decide +kernel)) ggX5_seen_X5_isPiece
set_option maxRecDepth 20000 in
theorem ggX5_seen_X5_isDeed : GoodIn wsX5_seen wsX5_isDeed := goodIn_r _ [16, 8, 17, 10, 11, 6, 12, 27, 28, 29, 30, 31, 32, 33, 34, 35, 36, 41, 42, 43, 44, 45, 46, 47, 48, 49, 50, 51, 52] (by decide +kernel) (by decide +kernel)
set_option maxRecDepth 20000 in
theorem gX5_seen_X5_isDeed : GoodIn wsX5_seen (wsV RX5 134 RX5 yX5_isDeed wsX5_isDeed) := goodIn_app (goodIn_of _ (by decide +kernel)) ggX5_seen_X5_isDeed
set_option maxRecDepth 20000 in
theorem ggX5_seen_X5_isWithin : GoodIn wsX5_seen wsX5_isWithin := goodIn_r _ [12] (by decide +kernel) (by decide +kernel)
set_option maxRecDepth 20000 in
theorem gX5_seen_X5_isWithin : GoodIn wsX5_seen (va_wsS RX5 80 yX5_isWithin wsX5_isWithin) := goodIn_app (goodIn_of _ (by decide +kernel)) ggX5_seen_X5_isWithin
set_option maxRecDepth 20000 in
theorem ggX5_seen_X3_add : GoodIn wsX5_seen wsX3_add := goodIn_r _ [22, 23, 24, 25, 26, 37, 38, 39, 40] (by decide +kernel) (by decide +kernel)
set_option maxRecDepth 20000 in
theorem gX5_seen_X3_add : GoodIn wsX5_seen (wsV RX5 233 RX3 yX3_add wsX3_add) := goodIn_app (goodIn_of _ (by decide +kernel)) ggX5_seen_X3_add
theorem dX5_seen_0 : decode cX5_seen 0 = .ok (.aload_n 0, 1) := by decide +kernel
theorem dX5_seen_1 : decode cX5_seen 1 = .ok (.iload_n 1, 1) := by decide +kernel
theorem dX5_seen_2 : decode cX5_seen 2 = .ok (.invokevirtual 109, 3) := by decide +kernel
theorem dX5_seen_5 : decode cX5_seen 5 = .ok (.ifCond .eq 20, 3) := by decide +kernel
theorem dX5_seen_8 : decode cX5_seen 8 = .ok (.aload_n 0, 1) := by decide +kernel
theorem dX5_seen_9 : decode cX5_seen 9 = .ok (.iload_n 2, 1) := by decide +kernel
theorem dX5_seen_10 : decode cX5_seen 10 = .ok (.invokevirtual 134, 3) := by decide +kernel
theorem dX5_seen_13 : decode cX5_seen 13 = .ok (.ifCond .eq 12, 3) := by decide +kernel
theorem dX5_seen_16 : decode cX5_seen 16 = .ok (.iload_n 3, 1) := by decide +kernel
theorem dX5_seen_17 : decode cX5_seen 17 = .ok (.iconst 0, 1) := by decide +kernel
theorem dX5_seen_18 : decode cX5_seen 18 = .ok (.iconst 1, 1) := by decide +kernel
theorem dX5_seen_19 : decode cX5_seen 19 = .ok (.invokestatic 80, 3) := by decide +kernel
theorem dX5_seen_22 : decode cX5_seen 22 = .ok (.ifCond .ne 5, 3) := by decide +kernel
theorem dX5_seen_25 : decode cX5_seen 25 = .ok (.iconst (-1), 1) := by decide +kernel
theorem dX5_seen_26 : decode cX5_seen 26 = .ok (.ireturn, 1) := by decide +kernel
theorem dX5_seen_27 : decode cX5_seen 27 = .ok (.aload_n 0, 1) := by decide +kernel
theorem dX5_seen_28 : decode cX5_seen 28 = .ok (.getfield 46, 3) := by decide +kernel
theorem dX5_seen_31 : decode cX5_seen 31 = .ok (.iload_n 1, 1) := by decide +kernel
theorem dX5_seen_32 : decode cX5_seen 32 = .ok (.iload_n 2, 1) := by decide +kernel
theorem dX5_seen_33 : decode cX5_seen 33 = .ok (.iload_n 3, 1) := by decide +kernel
theorem dX5_seen_34 : decode cX5_seen 34 = .ok (.iconst 1, 1) := by decide +kernel
theorem dX5_seen_35 : decode cX5_seen 35 = .ok (.if_icmp .ne 7, 3) := by decide +kernel
theorem dX5_seen_38 : decode cX5_seen 38 = .ok (.iconst 1, 1) := by decide +kernel
theorem dX5_seen_39 : decode cX5_seen 39 = .ok (.goto 4, 3) := by decide +kernel
theorem dX5_seen_42 : decode cX5_seen 42 = .ok (.iconst 0, 1) := by decide +kernel
theorem dX5_seen_43 : decode cX5_seen 43 = .ok (.invokevirtual 233, 3) := by decide +kernel
theorem dX5_seen_46 : decode cX5_seen 46 = .ok (.ifCond .eq 13, 3) := by decide +kernel
theorem dX5_seen_49 : decode cX5_seen 49 = .ok (.aload_n 0, 1) := by decide +kernel
theorem dX5_seen_50 : decode cX5_seen 50 = .ok (.getfield 46, 3) := by decide +kernel
theorem dX5_seen_53 : decode cX5_seen 53 = .ok (.getfield 236, 3) := by decide +kernel
theorem dX5_seen_56 : decode cX5_seen 56 = .ok (.goto 5, 3) := by decide +kernel
theorem dX5_seen_59 : decode cX5_seen 59 = .ok (.bipush (-3), 2) := by decide +kernel
theorem dX5_seen_61 : decode cX5_seen 61 = .ok (.ireturn, 1) := by decide +kernel
set_option maxRecDepth 20000 in
theorem ggX5_forget_X3_clear : GoodIn wsX5_forget wsX3_clear := goodIn_r _ [7, 8, 19, 20, 21, 22] (by decide +kernel) (by decide +kernel)
set_option maxRecDepth 20000 in
theorem gX5_forget_X3_clear : GoodIn wsX5_forget (wsV RX5 105 RX3 yX3_clear wsX3_clear) := goodIn_app (goodIn_of _ (by decide +kernel)) ggX5_forget_X3_clear
theorem dX5_forget_0 : decode cX5_forget 0 = .ok (.aload_n 0, 1) := by decide +kernel
theorem dX5_forget_1 : decode cX5_forget 1 = .ok (.getfield 46, 3) := by decide +kernel
theorem dX5_forget_4 : decode cX5_forget 4 = .ok (.getfield 236, 3) := by decide +kernel
theorem dX5_forget_7 : decode cX5_forget 7 = .ok (.istore_n 1, 1) := by decide +kernel
theorem dX5_forget_8 : decode cX5_forget 8 = .ok (.aload_n 0, 1) := by decide +kernel
theorem dX5_forget_9 : decode cX5_forget 9 = .ok (.getfield 46, 3) := by decide +kernel
theorem dX5_forget_12 : decode cX5_forget 12 = .ok (.invokevirtual 105, 3) := by decide +kernel
theorem dX5_forget_15 : decode cX5_forget 15 = .ok (.iload_n 1, 1) := by decide +kernel
theorem dX5_forget_16 : decode cX5_forget 16 = .ok (.ireturn, 1) := by decide +kernel
set_option maxRecDepth 20000 in
theorem ggX5_may_X5_isDeed : GoodIn wsX5_may wsX5_isDeed := goodIn_r _ [5, 6, 7, 8, 9, 4, 10, 56, 57, 58, 59, 60, 61, 62, 63, 64, 65, 66, 67, 68, 69, 70, 71, 72, 73, 74, 75, 76, 77] (by decide +kernel) (by decide +kernel)
set_option maxRecDepth 20000 in
theorem gX5_may_X5_isDeed : GoodIn wsX5_may (wsV RX5 134 RX5 yX5_isDeed wsX5_isDeed) := goodIn_app (goodIn_of _ (by decide +kernel)) ggX5_may_X5_isDeed
set_option maxRecDepth 20000 in
theorem ggX5_may_X5_isWithin : GoodIn wsX5_may wsX5_isWithin := goodIn_r _ [10] (by decide +kernel) (by decide +kernel)
set_option maxRecDepth 20000 in
theorem gX5_may_X5_isWithin : GoodIn wsX5_may (va_wsS RX5 80 yX5_isWithin wsX5_isWithin) := goodIn_app (goodIn_of _ (by decide +kernel)) ggX5_may_X5_isWithin
set_option maxRecDepth 20000 in
theorem ggX5_may_X5_roomsThatMay : GoodIn wsX5_may wsX5_roomsThatMay := goodIn_r _ [14, 6, 15, 16, 17, 18, 4, 19, 20, 21, 22, 23, 24, 25, 26, 27, 28, 29, 30, 31, 32, 8, 9, 10, 33, 34, 35, 36, 37, 38, 39, 40, 41, 42, 43, 44, 45, 46, 47, 48, 49, 50, 56, 57, 58, 59, 60, 61, 62, 63, 64, 65, 66, 67, 68, 69, 70, 71, 72, 73, 74, 75, 76, 77, 78, 79, 80, 81, 82, 83, 84, 85, 86] (by decide +kernel) (by decide +kernel)
set_option maxRecDepth 20000 in
theorem gX5_may_X5_roomsThatMay : GoodIn wsX5_may (wsV RX5 237 RX5 yX5_roomsThatMay wsX5_roomsThatMay) := goodIn_app (goodIn_of _ (by decide +kernel)) ggX5_may_X5_roomsThatMay
set_option maxRecDepth 20000 in
theorem ggX5_may_X5_hoursThatMay : GoodIn wsX5_may wsX5_hoursThatMay := goodIn_r _ [54, 6, 55, 16, 17, 18, 4, 19, 20, 21, 22, 23, 24, 25, 26, 27, 28, 29, 30, 31, 32, 8, 9, 10, 33, 34, 35, 36, 37, 38, 39, 40, 41, 42, 43, 44, 45, 46, 47, 48, 49, 50, 56, 57, 58, 59, 60, 61, 62, 63, 64, 65, 66, 67, 68, 69, 70, 71, 72, 73, 74, 75, 76, 77, 78, 79, 80, 81, 82, 83, 84, 85, 86] (by decide +kernel) (by decide +kernel)
set_option maxRecDepth 20000 in
theorem gX5_may_X5_hoursThatMay : GoodIn wsX5_may (wsV RX5 240 RX5 yX5_hoursThatMay wsX5_hoursThatMay) := goodIn_app (goodIn_of _ (by decide +kernel)) ggX5_may_X5_hoursThatMay
theorem dX5_may_0 : decode cX5_may 0 = .ok (.aload_n 0, 1) := by decide +kernel
theorem dX5_may_1 : decode cX5_may 1 = .ok (.iload_n 1, 1) := by decide +kernel
theorem dX5_may_2 : decode cX5_may 2 = .ok (.invokevirtual 134, 3) := by decide +kernel
theorem dX5_may_5 : decode cX5_may 5 = .ok (.ifCond .eq 12, 3) := by decide +kernel
theorem dX5_may_8 : decode cX5_may 8 = .ok (.iload_n 2, 1) := by decide +kernel
theorem dX5_may_9 : decode cX5_may 9 = .ok (.iconst 0, 1) := by decide +kernel
theorem dX5_may_10 : decode cX5_may 10 = .ok (.iconst 1, 1) := by decide +kernel
theorem dX5_may_11 : decode cX5_may 11 = .ok (.invokestatic 80, 3) := by decide +kernel
theorem dX5_may_14 : decode cX5_may 14 = .ok (.ifCond .ne 5, 3) := by decide +kernel
theorem dX5_may_17 : decode cX5_may 17 = .ok (.iconst (-1), 1) := by decide +kernel
theorem dX5_may_18 : decode cX5_may 18 = .ok (.ireturn, 1) := by decide +kernel
theorem dX5_may_19 : decode cX5_may 19 = .ok (.iload_n 2, 1) := by decide +kernel
theorem dX5_may_20 : decode cX5_may 20 = .ok (.ifCond .ne 11, 3) := by decide +kernel
theorem dX5_may_23 : decode cX5_may 23 = .ok (.aload_n 0, 1) := by decide +kernel
theorem dX5_may_24 : decode cX5_may 24 = .ok (.iload_n 1, 1) := by decide +kernel
theorem dX5_may_25 : decode cX5_may 25 = .ok (.invokevirtual 237, 3) := by decide +kernel
theorem dX5_may_28 : decode cX5_may 28 = .ok (.goto 8, 3) := by decide +kernel
theorem dX5_may_31 : decode cX5_may 31 = .ok (.aload_n 0, 1) := by decide +kernel
theorem dX5_may_32 : decode cX5_may 32 = .ok (.iload_n 1, 1) := by decide +kernel
theorem dX5_may_33 : decode cX5_may 33 = .ok (.invokevirtual 240, 3) := by decide +kernel
theorem dX5_may_36 : decode cX5_may 36 = .ok (.ireturn, 1) := by decide +kernel
set_option maxRecDepth 20000 in
theorem ggX5_likely_X5_isDeed : GoodIn wsX5_likely wsX5_isDeed := goodIn_r _ [5, 6, 7, 8, 9, 4, 10, 69, 70, 71, 72, 73, 74, 75, 76, 77, 78, 79, 80, 81, 82, 83, 84, 85, 86, 87, 88, 89, 90] (by decide +kernel) (by decide +kernel)
set_option maxRecDepth 20000 in
theorem gX5_likely_X5_isDeed : GoodIn wsX5_likely (wsV RX5 134 RX5 yX5_isDeed wsX5_isDeed) := goodIn_app (goodIn_of _ (by decide +kernel)) ggX5_likely_X5_isDeed
set_option maxRecDepth 20000 in
theorem ggX5_likely_X5_isWithin : GoodIn wsX5_likely wsX5_isWithin := goodIn_r _ [10] (by decide +kernel) (by decide +kernel)
set_option maxRecDepth 20000 in
theorem gX5_likely_X5_isWithin : GoodIn wsX5_likely (va_wsS RX5 80 yX5_isWithin wsX5_isWithin) := goodIn_app (goodIn_of _ (by decide +kernel)) ggX5_likely_X5_isWithin
set_option maxRecDepth 20000 in
theorem ggX5_likely_X5_hasComeOut : GoodIn wsX5_likely wsX5_hasComeOut := goodIn_r _ [14, 15, 16, 69, 70, 71, 72, 73, 74, 75, 76, 77, 78, 91, 92, 93, 94, 95] (by decide +kernel) (by decide +kernel)
set_option maxRecDepth 20000 in
theorem gX5_likely_X5_hasComeOut : GoodIn wsX5_likely (wsV RX5 149 RX5 yX5_hasComeOut wsX5_hasComeOut) := goodIn_app (goodIn_of _ (by decide +kernel)) ggX5_likely_X5_hasComeOut
set_option maxRecDepth 20000 in
theorem ggX5_likely_X5_looseTellers : GoodIn wsX5_likely wsX5_looseTellers := goodIn_r _ [20, 6, 21, 15, 22, 23, 24, 4, 25, 26, 27, 28, 29, 30, 31, 32, 33, 34, 35, 36, 37, 38, 39, 40, 41, 42, 43, 44, 45, 46, 47, 48, 49, 50, 51, 52, 53, 54, 55, 56, 57, 58, 59, 60, 61, 69, 70, 71, 72, 73, 74, 75, 76, 77, 78, 79, 80, 81, 82, 83, 84, 85, 86, 87, 88, 89, 90, 91, 92, 93, 94, 95] (by decide +kernel) (by decide +kernel)
set_option maxRecDepth 20000 in
theorem gX5_likely_X5_looseTellers : GoodIn wsX5_likely (wsV RX5 152 RX5 yX5_looseTellers wsX5_looseTellers) := goodIn_app (goodIn_of _ (by decide +kernel)) ggX5_likely_X5_looseTellers
set_option maxRecDepth 20000 in
theorem ggX5_likely_J6_bitCount_0f7a4 : GoodIn wsX5_likely wsJ6_bitCount_0f7a4 := goodIn_r _ [65, 66, 67, 68] (by decide +kernel) (by decide +kernel)
set_option maxRecDepth 20000 in
theorem gX5_likely_J6_bitCount_0f7a4 : GoodIn wsX5_likely (va_wsS RX5 215 yJ6_bitCount_0f7a4 wsJ6_bitCount_0f7a4) := goodIn_app (goodIn_of _ (by decide +kernel)) ggX5_likely_J6_bitCount_0f7a4
theorem dX5_likely_0 : decode cX5_likely 0 = .ok (.aload_n 0, 1) := by decide +kernel
theorem dX5_likely_1 : decode cX5_likely 1 = .ok (.iload_n 1, 1) := by decide +kernel
theorem dX5_likely_2 : decode cX5_likely 2 = .ok (.invokevirtual 134, 3) := by decide +kernel
theorem dX5_likely_5 : decode cX5_likely 5 = .ok (.ifCond .eq 22, 3) := by decide +kernel
theorem dX5_likely_8 : decode cX5_likely 8 = .ok (.iload_n 2, 1) := by decide +kernel
theorem dX5_likely_9 : decode cX5_likely 9 = .ok (.iconst 0, 1) := by decide +kernel
theorem dX5_likely_10 : decode cX5_likely 10 = .ok (.bipush 10, 2) := by decide +kernel
theorem dX5_likely_12 : decode cX5_likely 12 = .ok (.invokestatic 80, 3) := by decide +kernel
theorem dX5_likely_15 : decode cX5_likely 15 = .ok (.ifCond .eq 12, 3) := by decide +kernel
theorem dX5_likely_18 : decode cX5_likely 18 = .ok (.iload_n 3, 1) := by decide +kernel
theorem dX5_likely_19 : decode cX5_likely 19 = .ok (.iconst 0, 1) := by decide +kernel
theorem dX5_likely_20 : decode cX5_likely 20 = .ok (.iconst 1, 1) := by decide +kernel
theorem dX5_likely_21 : decode cX5_likely 21 = .ok (.invokestatic 80, 3) := by decide +kernel
theorem dX5_likely_24 : decode cX5_likely 24 = .ok (.ifCond .ne 5, 3) := by decide +kernel
theorem dX5_likely_27 : decode cX5_likely 27 = .ok (.iconst (-1), 1) := by decide +kernel
theorem dX5_likely_28 : decode cX5_likely 28 = .ok (.ireturn, 1) := by decide +kernel
theorem dX5_likely_29 : decode cX5_likely 29 = .ok (.aload_n 0, 1) := by decide +kernel
theorem dX5_likely_30 : decode cX5_likely 30 = .ok (.iload_n 1, 1) := by decide +kernel
theorem dX5_likely_31 : decode cX5_likely 31 = .ok (.invokevirtual 149, 3) := by decide +kernel
theorem dX5_likely_34 : decode cX5_likely 34 = .ok (.ifCond .eq 5, 3) := by decide +kernel
theorem dX5_likely_37 : decode cX5_likely 37 = .ok (.iconst 1, 1) := by decide +kernel
theorem dX5_likely_38 : decode cX5_likely 38 = .ok (.ireturn, 1) := by decide +kernel
theorem dX5_likely_39 : decode cX5_likely 39 = .ok (.iconst 1, 1) := by decide +kernel
theorem dX5_likely_40 : decode cX5_likely 40 = .ok (.istore 4, 2) := by decide +kernel
theorem dX5_likely_42 : decode cX5_likely 42 = .ok (.iconst 1, 1) := by decide +kernel
theorem dX5_likely_43 : decode cX5_likely 43 = .ok (.istore 5, 2) := by decide +kernel
theorem dX5_likely_45 : decode cX5_likely 45 = .ok (.aload_n 0, 1) := by decide +kernel
theorem dX5_likely_46 : decode cX5_likely 46 = .ok (.iconst 1, 1) := by decide +kernel
theorem dX5_likely_47 : decode cX5_likely 47 = .ok (.iload_n 1, 1) := by decide +kernel
theorem dX5_likely_48 : decode cX5_likely 48 = .ok (.ishl, 1) := by decide +kernel
theorem dX5_likely_49 : decode cX5_likely 49 = .ok (.invokevirtual 152, 3) := by decide +kernel
theorem dX5_likely_52 : decode cX5_likely 52 = .ok (.invokestatic 215, 3) := by decide +kernel
theorem dX5_likely_55 : decode cX5_likely 55 = .ok (.istore 6, 2) := by decide +kernel
theorem dX5_likely_57 : decode cX5_likely 57 = .ok (.iconst 0, 1) := by decide +kernel
theorem dX5_likely_58 : decode cX5_likely 58 = .ok (.istore 7, 2) := by decide +kernel
theorem dX5_likely_60 : decode cX5_likely 60 = .ok (.iload 7, 2) := by decide +kernel
theorem dX5_likely_62 : decode cX5_likely 62 = .ok (.iload 6, 2) := by decide +kernel
theorem dX5_likely_64 : decode cX5_likely 64 = .ok (.if_icmp .ge 25, 3) := by decide +kernel
theorem dX5_likely_67 : decode cX5_likely 67 = .ok (.iload 4, 2) := by decide +kernel
theorem dX5_likely_69 : decode cX5_likely 69 = .ok (.bipush 10, 2) := by decide +kernel
theorem dX5_likely_71 : decode cX5_likely 71 = .ok (.iload_n 2, 1) := by decide +kernel
theorem dX5_likely_72 : decode cX5_likely 72 = .ok (.isub, 1) := by decide +kernel
theorem dX5_likely_73 : decode cX5_likely 73 = .ok (.imul, 1) := by decide +kernel
theorem dX5_likely_74 : decode cX5_likely 74 = .ok (.istore 4, 2) := by decide +kernel
theorem dX5_likely_76 : decode cX5_likely 76 = .ok (.iload 5, 2) := by decide +kernel
theorem dX5_likely_78 : decode cX5_likely 78 = .ok (.bipush 10, 2) := by decide +kernel
theorem dX5_likely_80 : decode cX5_likely 80 = .ok (.imul, 1) := by decide +kernel
theorem dX5_likely_81 : decode cX5_likely 81 = .ok (.istore 5, 2) := by decide +kernel
theorem dX5_likely_83 : decode cX5_likely 83 = .ok (.iinc 7 1, 3) := by decide +kernel
theorem dX5_likely_86 : decode cX5_likely 86 = .ok (.goto (-26), 3) := by decide +kernel
theorem dX5_likely_89 : decode cX5_likely 89 = .ok (.iload 5, 2) := by decide +kernel
theorem dX5_likely_91 : decode cX5_likely 91 = .ok (.iload 4, 2) := by decide +kernel
theorem dX5_likely_93 : decode cX5_likely 93 = .ok (.isub, 1) := by decide +kernel
theorem dX5_likely_94 : decode cX5_likely 94 = .ok (.istore 7, 2) := by decide +kernel
theorem dX5_likely_96 : decode cX5_likely 96 = .ok (.iconst 0, 1) := by decide +kernel
theorem dX5_likely_97 : decode cX5_likely 97 = .ok (.istore 8, 2) := by decide +kernel
theorem dX5_likely_99 : decode cX5_likely 99 = .ok (.iload 8, 2) := by decide +kernel
theorem dX5_likely_101 : decode cX5_likely 101 = .ok (.iload 6, 2) := by decide +kernel
theorem dX5_likely_103 : decode cX5_likely 103 = .ok (.if_icmp .ge 61, 3) := by decide +kernel
theorem dX5_likely_106 : decode cX5_likely 106 = .ok (.iload 7, 2) := by decide +kernel
theorem dX5_likely_108 : decode cX5_likely 108 = .ok (.iconst 2, 1) := by decide +kernel
theorem dX5_likely_109 : decode cX5_likely 109 = .ok (.irem, 1) := by decide +kernel
theorem dX5_likely_110 : decode cX5_likely 110 = .ok (.ifCond .ne 22, 3) := by decide +kernel
theorem dX5_likely_113 : decode cX5_likely 113 = .ok (.iload 5, 2) := by decide +kernel
theorem dX5_likely_115 : decode cX5_likely 115 = .ok (.iconst 2, 1) := by decide +kernel
theorem dX5_likely_116 : decode cX5_likely 116 = .ok (.irem, 1) := by decide +kernel
theorem dX5_likely_117 : decode cX5_likely 117 = .ok (.ifCond .ne 15, 3) := by decide +kernel
theorem dX5_likely_120 : decode cX5_likely 120 = .ok (.iload 7, 2) := by decide +kernel
theorem dX5_likely_122 : decode cX5_likely 122 = .ok (.iconst 2, 1) := by decide +kernel
theorem dX5_likely_123 : decode cX5_likely 123 = .ok (.idiv, 1) := by decide +kernel
theorem dX5_likely_124 : decode cX5_likely 124 = .ok (.istore 7, 2) := by decide +kernel
theorem dX5_likely_126 : decode cX5_likely 126 = .ok (.iload 5, 2) := by decide +kernel
theorem dX5_likely_128 : decode cX5_likely 128 = .ok (.iconst 2, 1) := by decide +kernel
theorem dX5_likely_129 : decode cX5_likely 129 = .ok (.idiv, 1) := by decide +kernel
theorem dX5_likely_130 : decode cX5_likely 130 = .ok (.istore 5, 2) := by decide +kernel
theorem dX5_likely_132 : decode cX5_likely 132 = .ok (.iload 7, 2) := by decide +kernel
theorem dX5_likely_134 : decode cX5_likely 134 = .ok (.iconst 5, 1) := by decide +kernel
theorem dX5_likely_135 : decode cX5_likely 135 = .ok (.irem, 1) := by decide +kernel
theorem dX5_likely_136 : decode cX5_likely 136 = .ok (.ifCond .ne 22, 3) := by decide +kernel
theorem dX5_likely_139 : decode cX5_likely 139 = .ok (.iload 5, 2) := by decide +kernel
theorem dX5_likely_141 : decode cX5_likely 141 = .ok (.iconst 5, 1) := by decide +kernel
theorem dX5_likely_142 : decode cX5_likely 142 = .ok (.irem, 1) := by decide +kernel
theorem dX5_likely_143 : decode cX5_likely 143 = .ok (.ifCond .ne 15, 3) := by decide +kernel
theorem dX5_likely_146 : decode cX5_likely 146 = .ok (.iload 7, 2) := by decide +kernel
theorem dX5_likely_148 : decode cX5_likely 148 = .ok (.iconst 5, 1) := by decide +kernel
theorem dX5_likely_149 : decode cX5_likely 149 = .ok (.idiv, 1) := by decide +kernel
theorem dX5_likely_150 : decode cX5_likely 150 = .ok (.istore 7, 2) := by decide +kernel
theorem dX5_likely_152 : decode cX5_likely 152 = .ok (.iload 5, 2) := by decide +kernel
theorem dX5_likely_154 : decode cX5_likely 154 = .ok (.iconst 5, 1) := by decide +kernel
theorem dX5_likely_155 : decode cX5_likely 155 = .ok (.idiv, 1) := by decide +kernel
theorem dX5_likely_156 : decode cX5_likely 156 = .ok (.istore 5, 2) := by decide +kernel
theorem dX5_likely_158 : decode cX5_likely 158 = .ok (.iinc 8 1, 3) := by decide +kernel
theorem dX5_likely_161 : decode cX5_likely 161 = .ok (.goto (-62), 3) := by decide +kernel
theorem dX5_likely_164 : decode cX5_likely 164 = .ok (.iload_n 3, 1) := by decide +kernel
theorem dX5_likely_165 : decode cX5_likely 165 = .ok (.ifCond .ne 8, 3) := by decide +kernel
theorem dX5_likely_168 : decode cX5_likely 168 = .ok (.iload 7, 2) := by decide +kernel
theorem dX5_likely_170 : decode cX5_likely 170 = .ok (.goto 5, 3) := by decide +kernel
theorem dX5_likely_173 : decode cX5_likely 173 = .ok (.iload 5, 2) := by decide +kernel
theorem dX5_likely_175 : decode cX5_likely 175 = .ok (.ireturn, 1) := by decide +kernel
set_option maxRecDepth 20000 in
theorem ggX5_sale_X5_isWithin : GoodIn wsX5_sale wsX5_isWithin := goodIn_r _ [8] (by decide +kernel) (by decide +kernel)
set_option maxRecDepth 20000 in
theorem gX5_sale_X5_isWithin : GoodIn wsX5_sale (va_wsS RX5 80 yX5_isWithin wsX5_isWithin) := goodIn_app (goodIn_of _ (by decide +kernel)) ggX5_sale_X5_isWithin
set_option maxRecDepth 20000 in
theorem ggX5_sale_X4_packed : GoodIn wsX5_sale wsX4_packed := goodIn_r _ [13, 14, 15, 16, 17, 18, 108, 109, 110, 111, 112] (by decide +kernel) (by decide +kernel)
set_option maxRecDepth 20000 in
theorem gX5_sale_X4_packed : GoodIn wsX5_sale (wsV RX5 155 RX4 yX4_packed wsX4_packed) := goodIn_app (goodIn_of _ (by decide +kernel)) ggX5_sale_X4_packed
set_option maxRecDepth 20000 in
theorem ggX5_sale_X4_unpack : GoodIn wsX5_sale wsX4_unpack := goodIn_r _ [22, 23, 18, 24, 17, 16, 15, 14, 108, 109, 110, 111, 112] (by decide +kernel) (by decide +kernel)
set_option maxRecDepth 20000 in
theorem gX5_sale_X4_unpack : GoodIn wsX5_sale (wsV RX5 182 RX4 yX4_unpack wsX4_unpack) := goodIn_app (goodIn_of _ (by decide +kernel)) ggX5_sale_X4_unpack
set_option maxRecDepth 20000 in
theorem ggX5_sale_X5_drawOf : GoodIn wsX5_sale wsX5_drawOf := goodIn_r _ [27, 28, 29, 30, 31] (by decide +kernel) (by decide +kernel)
set_option maxRecDepth 20000 in
theorem gX5_sale_X5_drawOf : GoodIn wsX5_sale (va_wsS RX5 243 yX5_drawOf wsX5_drawOf) := goodIn_app (goodIn_of _ (by decide +kernel)) ggX5_sale_X5_drawOf
set_option maxRecDepth 20000 in
theorem ggX5_sale_X5_dealOnce : GoodIn wsX5_sale wsX5_dealOnce := goodIn_r _ [35, 36, 37, 1, 38, 39, 40, 41, 7, 42, 43, 44, 45, 46, 12, 47, 16, 17, 48, 49, 50, 51, 52, 53, 54, 55, 56, 57, 18, 58, 59, 60, 61, 62, 63, 64, 65, 66, 67, 68, 69, 70, 71, 72, 73, 74, 75, 76, 77, 78, 15, 79, 80, 81, 82, 83, 84, 85, 86, 87, 88, 89, 4, 90, 91, 92, 93, 14, 94, 95, 96, 97, 98, 99, 100, 101, 102, 103, 104, 105, 106, 107, 113, 114, 115, 116, 117, 118, 119, 120, 121, 122, 123, 124, 108, 109, 110, 111, 112] (by decide +kernel) (by decide +kernel)
set_option maxRecDepth 20000 in
theorem gX5_sale_X5_dealOnce : GoodIn wsX5_sale (wsV RX5 246 RX5 yX5_dealOnce wsX5_dealOnce) := goodIn_app (goodIn_of _ (by decide +kernel)) ggX5_sale_X5_dealOnce
theorem dX5_sale_0 : decode cX5_sale 0 = .ok (.iload_n 1, 1) := by decide +kernel
theorem dX5_sale_1 : decode cX5_sale 1 = .ok (.iconst 0, 1) := by decide +kernel
theorem dX5_sale_2 : decode cX5_sale 2 = .ok (.sipush 9999, 3) := by decide +kernel
theorem dX5_sale_5 : decode cX5_sale 5 = .ok (.invokestatic 80, 3) := by decide +kernel
theorem dX5_sale_8 : decode cX5_sale 8 = .ok (.ifCond .eq 22, 3) := by decide +kernel
theorem dX5_sale_11 : decode cX5_sale 11 = .ok (.iload_n 2, 1) := by decide +kernel
theorem dX5_sale_12 : decode cX5_sale 12 = .ok (.iconst 1, 1) := by decide +kernel
theorem dX5_sale_13 : decode cX5_sale 13 = .ok (.bipush 40, 2) := by decide +kernel
theorem dX5_sale_15 : decode cX5_sale 15 = .ok (.invokestatic 80, 3) := by decide +kernel
theorem dX5_sale_18 : decode cX5_sale 18 = .ok (.ifCond .eq 12, 3) := by decide +kernel
theorem dX5_sale_21 : decode cX5_sale 21 = .ok (.iload_n 3, 1) := by decide +kernel
theorem dX5_sale_22 : decode cX5_sale 22 = .ok (.iconst 0, 1) := by decide +kernel
theorem dX5_sale_23 : decode cX5_sale 23 = .ok (.iconst 1, 1) := by decide +kernel
theorem dX5_sale_24 : decode cX5_sale 24 = .ok (.invokestatic 80, 3) := by decide +kernel
theorem dX5_sale_27 : decode cX5_sale 27 = .ok (.ifCond .ne 5, 3) := by decide +kernel
theorem dX5_sale_30 : decode cX5_sale 30 = .ok (.iconst (-1), 1) := by decide +kernel
theorem dX5_sale_31 : decode cX5_sale 31 = .ok (.ireturn, 1) := by decide +kernel
theorem dX5_sale_32 : decode cX5_sale 32 = .ok (.aload_n 0, 1) := by decide +kernel
theorem dX5_sale_33 : decode cX5_sale 33 = .ok (.getfield 33, 3) := by decide +kernel
theorem dX5_sale_36 : decode cX5_sale 36 = .ok (.aload_n 0, 1) := by decide +kernel
theorem dX5_sale_37 : decode cX5_sale 37 = .ok (.getfield 29, 3) := by decide +kernel
theorem dX5_sale_40 : decode cX5_sale 40 = .ok (.invokevirtual 155, 3) := by decide +kernel
theorem dX5_sale_43 : decode cX5_sale 43 = .ok (.invokevirtual 182, 3) := by decide +kernel
theorem dX5_sale_46 : decode cX5_sale 46 = .ok (.iconst 0, 1) := by decide +kernel
theorem dX5_sale_47 : decode cX5_sale 47 = .ok (.istore 4, 2) := by decide +kernel
theorem dX5_sale_49 : decode cX5_sale 49 = .ok (.iload 4, 2) := by decide +kernel
theorem dX5_sale_51 : decode cX5_sale 51 = .ok (.iload_n 2, 1) := by decide +kernel
theorem dX5_sale_52 : decode cX5_sale 52 = .ok (.if_icmp .ge 19, 3) := by decide +kernel
theorem dX5_sale_55 : decode cX5_sale 55 = .ok (.aload_n 0, 1) := by decide +kernel
theorem dX5_sale_56 : decode cX5_sale 56 = .ok (.iload_n 1, 1) := by decide +kernel
theorem dX5_sale_57 : decode cX5_sale 57 = .ok (.iload 4, 2) := by decide +kernel
theorem dX5_sale_59 : decode cX5_sale 59 = .ok (.invokestatic 243, 3) := by decide +kernel
theorem dX5_sale_62 : decode cX5_sale 62 = .ok (.invokevirtual 246, 3) := by decide +kernel
theorem dX5_sale_65 : decode cX5_sale 65 = .ok (.iinc 4 1, 3) := by decide +kernel
theorem dX5_sale_68 : decode cX5_sale 68 = .ok (.goto (-19), 3) := by decide +kernel
theorem dX5_sale_71 : decode cX5_sale 71 = .ok (.iload_n 3, 1) := by decide +kernel
theorem dX5_sale_72 : decode cX5_sale 72 = .ok (.ifCond .ne 13, 3) := by decide +kernel
theorem dX5_sale_75 : decode cX5_sale 75 = .ok (.aload_n 0, 1) := by decide +kernel
theorem dX5_sale_76 : decode cX5_sale 76 = .ok (.getfield 33, 3) := by decide +kernel
theorem dX5_sale_79 : decode cX5_sale 79 = .ok (.getfield 191, 3) := by decide +kernel
theorem dX5_sale_82 : decode cX5_sale 82 = .ok (.goto 10, 3) := by decide +kernel
theorem dX5_sale_85 : decode cX5_sale 85 = .ok (.aload_n 0, 1) := by decide +kernel
theorem dX5_sale_86 : decode cX5_sale 86 = .ok (.getfield 33, 3) := by decide +kernel
theorem dX5_sale_89 : decode cX5_sale 89 = .ok (.getfield 172, 3) := by decide +kernel
theorem dX5_sale_92 : decode cX5_sale 92 = .ok (.ireturn, 1) := by decide +kernel
set_option maxRecDepth 20000 in
theorem ggX5_keep_X4_packed : GoodIn wsX5_keep wsX4_packed := goodIn_r _ [8, 9, 10, 11, 12, 13, 24, 25, 26, 27, 28] (by decide +kernel) (by decide +kernel)
set_option maxRecDepth 20000 in
theorem gX5_keep_X4_packed : GoodIn wsX5_keep (wsV RX5 155 RX4 yX4_packed wsX4_packed) := goodIn_app (goodIn_of _ (by decide +kernel)) ggX5_keep_X4_packed
theorem dX5_keep_0 : decode cX5_keep 0 = .ok (.aload_n 0, 1) := by decide +kernel
theorem dX5_keep_1 : decode cX5_keep 1 = .ok (.getfield 106, 3) := by decide +kernel
theorem dX5_keep_4 : decode cX5_keep 4 = .ok (.aload_n 0, 1) := by decide +kernel
theorem dX5_keep_5 : decode cX5_keep 5 = .ok (.getfield 50, 3) := by decide +kernel
theorem dX5_keep_8 : decode cX5_keep 8 = .ok (.arraylength, 1) := by decide +kernel
theorem dX5_keep_9 : decode cX5_keep 9 = .ok (.if_icmp .lt 6, 3) := by decide +kernel
theorem dX5_keep_12 : decode cX5_keep 12 = .ok (.bipush (-3), 2) := by decide +kernel
theorem dX5_keep_14 : decode cX5_keep 14 = .ok (.ireturn, 1) := by decide +kernel
theorem dX5_keep_15 : decode cX5_keep 15 = .ok (.aload_n 0, 1) := by decide +kernel
theorem dX5_keep_16 : decode cX5_keep 16 = .ok (.getfield 50, 3) := by decide +kernel
theorem dX5_keep_19 : decode cX5_keep 19 = .ok (.aload_n 0, 1) := by decide +kernel
theorem dX5_keep_20 : decode cX5_keep 20 = .ok (.getfield 106, 3) := by decide +kernel
theorem dX5_keep_23 : decode cX5_keep 23 = .ok (.aload_n 0, 1) := by decide +kernel
theorem dX5_keep_24 : decode cX5_keep 24 = .ok (.getfield 29, 3) := by decide +kernel
theorem dX5_keep_27 : decode cX5_keep 27 = .ok (.invokevirtual 155, 3) := by decide +kernel
theorem dX5_keep_30 : decode cX5_keep 30 = .ok (.lastore, 1) := by decide +kernel
theorem dX5_keep_31 : decode cX5_keep 31 = .ok (.aload_n 0, 1) := by decide +kernel
theorem dX5_keep_32 : decode cX5_keep 32 = .ok (.dup, 1) := by decide +kernel
theorem dX5_keep_33 : decode cX5_keep 33 = .ok (.getfield 106, 3) := by decide +kernel
theorem dX5_keep_36 : decode cX5_keep 36 = .ok (.iconst 1, 1) := by decide +kernel
theorem dX5_keep_37 : decode cX5_keep 37 = .ok (.iadd, 1) := by decide +kernel
theorem dX5_keep_38 : decode cX5_keep 38 = .ok (.putfield 106, 3) := by decide +kernel
theorem dX5_keep_41 : decode cX5_keep 41 = .ok (.aload_n 0, 1) := by decide +kernel
theorem dX5_keep_42 : decode cX5_keep 42 = .ok (.getfield 106, 3) := by decide +kernel
theorem dX5_keep_45 : decode cX5_keep 45 = .ok (.ireturn, 1) := by decide +kernel
set_option maxRecDepth 20000 in
theorem ggX5_back_X4_unpack : GoodIn wsX5_back wsX4_unpack := goodIn_r _ [9, 10, 11, 12, 13, 14, 15, 16, 33, 34, 35, 36, 37] (by decide +kernel) (by decide +kernel)
set_option maxRecDepth 20000 in
theorem gX5_back_X4_unpack : GoodIn wsX5_back (wsV RX5 182 RX4 yX4_unpack wsX4_unpack) := goodIn_app (goodIn_of _ (by decide +kernel)) ggX5_back_X4_unpack
set_option maxRecDepth 20000 in
theorem ggX5_back_X2_clear : GoodIn wsX5_back wsX2_clear := goodIn_r _ [21, 22, 38, 39, 40] (by decide +kernel) (by decide +kernel)
set_option maxRecDepth 20000 in
theorem gX5_back_X2_clear : GoodIn wsX5_back (wsV RX5 104 RX2 yX2_clear wsX2_clear) := goodIn_app (goodIn_of _ (by decide +kernel)) ggX5_back_X2_clear
theorem dX5_back_0 : decode cX5_back 0 = .ok (.aload_n 0, 1) := by decide +kernel
theorem dX5_back_1 : decode cX5_back 1 = .ok (.getfield 106, 3) := by decide +kernel
theorem dX5_back_4 : decode cX5_back 4 = .ok (.iconst 1, 1) := by decide +kernel
theorem dX5_back_5 : decode cX5_back 5 = .ok (.if_icmp .ge 6, 3) := by decide +kernel
theorem dX5_back_8 : decode cX5_back 8 = .ok (.bipush (-2), 2) := by decide +kernel
theorem dX5_back_10 : decode cX5_back 10 = .ok (.ireturn, 1) := by decide +kernel
theorem dX5_back_11 : decode cX5_back 11 = .ok (.aload_n 0, 1) := by decide +kernel
theorem dX5_back_12 : decode cX5_back 12 = .ok (.dup, 1) := by decide +kernel
theorem dX5_back_13 : decode cX5_back 13 = .ok (.getfield 106, 3) := by decide +kernel
theorem dX5_back_16 : decode cX5_back 16 = .ok (.iconst 1, 1) := by decide +kernel
theorem dX5_back_17 : decode cX5_back 17 = .ok (.isub, 1) := by decide +kernel
theorem dX5_back_18 : decode cX5_back 18 = .ok (.putfield 106, 3) := by decide +kernel
theorem dX5_back_21 : decode cX5_back 21 = .ok (.aload_n 0, 1) := by decide +kernel
theorem dX5_back_22 : decode cX5_back 22 = .ok (.getfield 29, 3) := by decide +kernel
theorem dX5_back_25 : decode cX5_back 25 = .ok (.aload_n 0, 1) := by decide +kernel
theorem dX5_back_26 : decode cX5_back 26 = .ok (.getfield 50, 3) := by decide +kernel
theorem dX5_back_29 : decode cX5_back 29 = .ok (.aload_n 0, 1) := by decide +kernel
theorem dX5_back_30 : decode cX5_back 30 = .ok (.getfield 106, 3) := by decide +kernel
theorem dX5_back_33 : decode cX5_back 33 = .ok (.laload, 1) := by decide +kernel
theorem dX5_back_34 : decode cX5_back 34 = .ok (.invokevirtual 182, 3) := by decide +kernel
theorem dX5_back_37 : decode cX5_back 37 = .ok (.aload_n 0, 1) := by decide +kernel
theorem dX5_back_38 : decode cX5_back 38 = .ok (.getfield 39, 3) := by decide +kernel
theorem dX5_back_41 : decode cX5_back 41 = .ok (.invokevirtual 104, 3) := by decide +kernel
theorem dX5_back_44 : decode cX5_back 44 = .ok (.aload_n 0, 1) := by decide +kernel
theorem dX5_back_45 : decode cX5_back 45 = .ok (.getfield 106, 3) := by decide +kernel
theorem dX5_back_48 : decode cX5_back 48 = .ok (.ireturn, 1) := by decide +kernel
set_option maxRecDepth 20000 in
theorem ggX5_count_X5_looseOnes : GoodIn wsX5_count wsX5_looseOnes := goodIn_r _ [20, 1, 2, 4, 21, 22, 23, 19, 24, 25, 26, 27, 28, 29, 30, 31, 32, 33, 34, 35, 36, 37, 38, 46, 47, 48, 49, 50, 51, 52, 53, 54, 55, 56, 57, 58, 59, 60, 61, 62, 63, 64, 65, 66, 67, 68, 69, 70, 71, 72] (by decide +kernel) (by decide +kernel)
set_option maxRecDepth 20000 in
theorem gX5_count_X5_looseOnes : GoodIn wsX5_count (wsV RX5 203 RX5 yX5_looseOnes wsX5_looseOnes) := goodIn_app (goodIn_of _ (by decide +kernel)) ggX5_count_X5_looseOnes
set_option maxRecDepth 20000 in
theorem ggX5_count_J6_bitCount_0f7a4 : GoodIn wsX5_count wsJ6_bitCount_0f7a4 := goodIn_r _ [42, 43, 44, 45] (by decide +kernel) (by decide +kernel)
set_option maxRecDepth 20000 in
theorem gX5_count_J6_bitCount_0f7a4 : GoodIn wsX5_count (va_wsS RX5 215 yJ6_bitCount_0f7a4 wsJ6_bitCount_0f7a4) := goodIn_app (goodIn_of _ (by decide +kernel)) ggX5_count_J6_bitCount_0f7a4
theorem dX5_count_0 : decode cX5_count 0 = .ok (.iload_n 1, 1) := by decide +kernel
theorem dX5_count_1 : decode cX5_count 1 = .ok (.tableswitch 153 0 10 #[59, 67, 75, 83, 91, 102, 113, 124, 132, 140, 145], 59) := by decide +kernel
theorem dX5_count_60 : decode cX5_count 60 = .ok (.aload_n 0, 1) := by decide +kernel
theorem dX5_count_61 : decode cX5_count 61 = .ok (.getfield 19, 3) := by decide +kernel
theorem dX5_count_64 : decode cX5_count 64 = .ok (.getfield 91, 3) := by decide +kernel
theorem dX5_count_67 : decode cX5_count 67 = .ok (.ireturn, 1) := by decide +kernel
theorem dX5_count_68 : decode cX5_count 68 = .ok (.aload_n 0, 1) := by decide +kernel
theorem dX5_count_69 : decode cX5_count 69 = .ok (.getfield 19, 3) := by decide +kernel
theorem dX5_count_72 : decode cX5_count 72 = .ok (.getfield 220, 3) := by decide +kernel
theorem dX5_count_75 : decode cX5_count 75 = .ok (.ireturn, 1) := by decide +kernel
theorem dX5_count_76 : decode cX5_count 76 = .ok (.aload_n 0, 1) := by decide +kernel
theorem dX5_count_77 : decode cX5_count 77 = .ok (.getfield 29, 3) := by decide +kernel
theorem dX5_count_80 : decode cX5_count 80 = .ok (.getfield 172, 3) := by decide +kernel
theorem dX5_count_83 : decode cX5_count 83 = .ok (.ireturn, 1) := by decide +kernel
theorem dX5_count_84 : decode cX5_count 84 = .ok (.aload_n 0, 1) := by decide +kernel
theorem dX5_count_85 : decode cX5_count 85 = .ok (.invokevirtual 203, 3) := by decide +kernel
theorem dX5_count_88 : decode cX5_count 88 = .ok (.invokestatic 215, 3) := by decide +kernel
theorem dX5_count_91 : decode cX5_count 91 = .ok (.ireturn, 1) := by decide +kernel
theorem dX5_count_92 : decode cX5_count 92 = .ok (.aload_n 0, 1) := by decide +kernel
theorem dX5_count_93 : decode cX5_count 93 = .ok (.getfield 29, 3) := by decide +kernel
theorem dX5_count_96 : decode cX5_count 96 = .ok (.getfield 250, 3) := by decide +kernel
theorem dX5_count_99 : decode cX5_count 99 = .ok (.invokestatic 215, 3) := by decide +kernel
theorem dX5_count_102 : decode cX5_count 102 = .ok (.ireturn, 1) := by decide +kernel
theorem dX5_count_103 : decode cX5_count 103 = .ok (.aload_n 0, 1) := by decide +kernel
theorem dX5_count_104 : decode cX5_count 104 = .ok (.getfield 29, 3) := by decide +kernel
theorem dX5_count_107 : decode cX5_count 107 = .ok (.getfield 253, 3) := by decide +kernel
theorem dX5_count_110 : decode cX5_count 110 = .ok (.invokestatic 215, 3) := by decide +kernel
theorem dX5_count_113 : decode cX5_count 113 = .ok (.ireturn, 1) := by decide +kernel
theorem dX5_count_114 : decode cX5_count 114 = .ok (.aload_n 0, 1) := by decide +kernel
theorem dX5_count_115 : decode cX5_count 115 = .ok (.getfield 29, 3) := by decide +kernel
theorem dX5_count_118 : decode cX5_count 118 = .ok (.getfield 191, 3) := by decide +kernel
theorem dX5_count_121 : decode cX5_count 121 = .ok (.invokestatic 215, 3) := by decide +kernel
theorem dX5_count_124 : decode cX5_count 124 = .ok (.ireturn, 1) := by decide +kernel
theorem dX5_count_125 : decode cX5_count 125 = .ok (.aload_n 0, 1) := by decide +kernel
theorem dX5_count_126 : decode cX5_count 126 = .ok (.getfield 46, 3) := by decide +kernel
theorem dX5_count_129 : decode cX5_count 129 = .ok (.getfield 236, 3) := by decide +kernel
theorem dX5_count_132 : decode cX5_count 132 = .ok (.ireturn, 1) := by decide +kernel
theorem dX5_count_133 : decode cX5_count 133 = .ok (.aload_n 0, 1) := by decide +kernel
theorem dX5_count_134 : decode cX5_count 134 = .ok (.getfield 39, 3) := by decide +kernel
theorem dX5_count_137 : decode cX5_count 137 = .ok (.getfield 176, 3) := by decide +kernel
theorem dX5_count_140 : decode cX5_count 140 = .ok (.ireturn, 1) := by decide +kernel
theorem dX5_count_141 : decode cX5_count 141 = .ok (.aload_n 0, 1) := by decide +kernel
theorem dX5_count_142 : decode cX5_count 142 = .ok (.getfield 106, 3) := by decide +kernel
theorem dX5_count_145 : decode cX5_count 145 = .ok (.ireturn, 1) := by decide +kernel
theorem dX5_count_146 : decode cX5_count 146 = .ok (.aload_n 0, 1) := by decide +kernel
theorem dX5_count_147 : decode cX5_count 147 = .ok (.getfield 10, 3) := by decide +kernel
theorem dX5_count_150 : decode cX5_count 150 = .ok (.getfield 84, 3) := by decide +kernel
theorem dX5_count_153 : decode cX5_count 153 = .ok (.ireturn, 1) := by decide +kernel
theorem dX5_count_154 : decode cX5_count 154 = .ok (.iconst (-1), 1) := by decide +kernel
theorem dX5_count_155 : decode cX5_count 155 = .ok (.ireturn, 1) := by decide +kernel
theorem dX5_isWithin_0 : decode cX5_isWithin 0 = .ok (.iload_n 0, 1) := by decide +kernel
theorem dX5_isWithin_1 : decode cX5_isWithin 1 = .ok (.iload_n 1, 1) := by decide +kernel
theorem dX5_isWithin_2 : decode cX5_isWithin 2 = .ok (.if_icmp .lt 12, 3) := by decide +kernel
theorem dX5_isWithin_5 : decode cX5_isWithin 5 = .ok (.iload_n 0, 1) := by decide +kernel
theorem dX5_isWithin_6 : decode cX5_isWithin 6 = .ok (.iload_n 2, 1) := by decide +kernel
theorem dX5_isWithin_7 : decode cX5_isWithin 7 = .ok (.if_icmp .gt 7, 3) := by decide +kernel
theorem dX5_isWithin_10 : decode cX5_isWithin 10 = .ok (.iconst 1, 1) := by decide +kernel
theorem dX5_isWithin_11 : decode cX5_isWithin 11 = .ok (.goto 4, 3) := by decide +kernel
theorem dX5_isWithin_14 : decode cX5_isWithin 14 = .ok (.iconst 0, 1) := by decide +kernel
theorem dX5_isWithin_15 : decode cX5_isWithin 15 = .ok (.ireturn, 1) := by decide +kernel
set_option maxRecDepth 20000 in
theorem ggX5_isPerson_X5_isWithin : GoodIn wsX5_isPerson wsX5_isWithin := goodIn_r _ [4] (by decide +kernel) (by decide +kernel)
set_option maxRecDepth 20000 in
theorem gX5_isPerson_X5_isWithin : GoodIn wsX5_isPerson (va_wsS RX5 80 yX5_isWithin wsX5_isWithin) := goodIn_app (goodIn_of _ (by decide +kernel)) ggX5_isPerson_X5_isWithin
theorem dX5_isPerson_0 : decode cX5_isPerson 0 = .ok (.iload_n 0, 1) := by decide +kernel
theorem dX5_isPerson_1 : decode cX5_isPerson 1 = .ok (.iconst 0, 1) := by decide +kernel
theorem dX5_isPerson_2 : decode cX5_isPerson 2 = .ok (.iconst 5, 1) := by decide +kernel
theorem dX5_isPerson_3 : decode cX5_isPerson 3 = .ok (.invokestatic 80, 3) := by decide +kernel
theorem dX5_isPerson_6 : decode cX5_isPerson 6 = .ok (.ireturn, 1) := by decide +kernel
set_option maxRecDepth 20000 in
theorem ggX5_isPiece_X5_isWithin : GoodIn wsX5_isPiece wsX5_isWithin := goodIn_r _ [6] (by decide +kernel) (by decide +kernel)
set_option maxRecDepth 20000 in
theorem gX5_isPiece_X5_isWithin : GoodIn wsX5_isPiece (va_wsS RX5 80 yX5_isWithin wsX5_isWithin) := goodIn_app (goodIn_of _ (by decide +kernel)) ggX5_isPiece_X5_isWithin
theorem dX5_isPiece_0 : decode cX5_isPiece 0 = .ok (.iload_n 1, 1) := by decide +kernel
theorem dX5_isPiece_1 : decode cX5_isPiece 1 = .ok (.iconst 0, 1) := by decide +kernel
theorem dX5_isPiece_2 : decode cX5_isPiece 2 = .ok (.aload_n 0, 1) := by decide +kernel
theorem dX5_isPiece_3 : decode cX5_isPiece 3 = .ok (.getfield 19, 3) := by decide +kernel
theorem dX5_isPiece_6 : decode cX5_isPiece 6 = .ok (.getfield 91, 3) := by decide +kernel
theorem dX5_isPiece_9 : decode cX5_isPiece 9 = .ok (.iconst 1, 1) := by decide +kernel
theorem dX5_isPiece_10 : decode cX5_isPiece 10 = .ok (.isub, 1) := by decide +kernel
theorem dX5_isPiece_11 : decode cX5_isPiece 11 = .ok (.invokestatic 80, 3) := by decide +kernel
theorem dX5_isPiece_14 : decode cX5_isPiece 14 = .ok (.ireturn, 1) := by decide +kernel
set_option maxRecDepth 20000 in
theorem ggX5_isDeed_X5_isWithin : GoodIn wsX5_isDeed wsX5_isWithin := goodIn_r _ [6] (by decide +kernel) (by decide +kernel)
set_option maxRecDepth 20000 in
theorem gX5_isDeed_X5_isWithin : GoodIn wsX5_isDeed (va_wsS RX5 80 yX5_isWithin wsX5_isWithin) := goodIn_app (goodIn_of _ (by decide +kernel)) ggX5_isDeed_X5_isWithin
theorem dX5_isDeed_0 : decode cX5_isDeed 0 = .ok (.iload_n 1, 1) := by decide +kernel
theorem dX5_isDeed_1 : decode cX5_isDeed 1 = .ok (.iconst 0, 1) := by decide +kernel
theorem dX5_isDeed_2 : decode cX5_isDeed 2 = .ok (.aload_n 0, 1) := by decide +kernel
theorem dX5_isDeed_3 : decode cX5_isDeed 3 = .ok (.getfield 19, 3) := by decide +kernel
theorem dX5_isDeed_6 : decode cX5_isDeed 6 = .ok (.getfield 220, 3) := by decide +kernel
theorem dX5_isDeed_9 : decode cX5_isDeed 9 = .ok (.iconst 1, 1) := by decide +kernel
theorem dX5_isDeed_10 : decode cX5_isDeed 10 = .ok (.isub, 1) := by decide +kernel
theorem dX5_isDeed_11 : decode cX5_isDeed 11 = .ok (.invokestatic 80, 3) := by decide +kernel
theorem dX5_isDeed_14 : decode cX5_isDeed 14 = .ok (.ireturn, 1) := by decide +kernel
theorem dX5_hasComeOut_0 : decode cX5_hasComeOut 0 = .ok (.aload_n 0, 1) := by decide +kernel
theorem dX5_hasComeOut_1 : decode cX5_hasComeOut 1 = .ok (.getfield 29, 3) := by decide +kernel
theorem dX5_hasComeOut_4 : decode cX5_hasComeOut 4 = .ok (.getfield 191, 3) := by decide +kernel
theorem dX5_hasComeOut_7 : decode cX5_hasComeOut 7 = .ok (.iload_n 1, 1) := by decide +kernel
theorem dX5_hasComeOut_8 : decode cX5_hasComeOut 8 = .ok (.ishr, 1) := by decide +kernel
theorem dX5_hasComeOut_9 : decode cX5_hasComeOut 9 = .ok (.iconst 1, 1) := by decide +kernel
theorem dX5_hasComeOut_10 : decode cX5_hasComeOut 10 = .ok (.iand, 1) := by decide +kernel
theorem dX5_hasComeOut_11 : decode cX5_hasComeOut 11 = .ok (.iconst 1, 1) := by decide +kernel
theorem dX5_hasComeOut_12 : decode cX5_hasComeOut 12 = .ok (.if_icmp .ne 7, 3) := by decide +kernel
theorem dX5_hasComeOut_15 : decode cX5_hasComeOut 15 = .ok (.iconst 1, 1) := by decide +kernel
theorem dX5_hasComeOut_16 : decode cX5_hasComeOut 16 = .ok (.goto 4, 3) := by decide +kernel
theorem dX5_hasComeOut_19 : decode cX5_hasComeOut 19 = .ok (.iconst 0, 1) := by decide +kernel
theorem dX5_hasComeOut_20 : decode cX5_hasComeOut 20 = .ok (.ireturn, 1) := by decide +kernel
set_option maxRecDepth 20000 in
theorem ggX5_isLoose_X4_howIs : GoodIn wsX5_isLoose wsX4_howIs := goodIn_r _ [7, 8, 9, 38, 39, 40, 41, 42] (by decide +kernel) (by decide +kernel)
set_option maxRecDepth 20000 in
theorem gX5_isLoose_X4_howIs : GoodIn wsX5_isLoose (wsV RX5 123 RX4 yX4_howIs wsX4_howIs) := goodIn_app (goodIn_of _ (by decide +kernel)) ggX5_isLoose_X4_howIs
set_option maxRecDepth 20000 in
theorem ggX5_isLoose_X0_forbids : GoodIn wsX5_isLoose wsX0_forbids := goodIn_r _ [14, 15, 26, 27, 28, 29, 30, 31, 32, 33, 34, 35, 36, 37] (by decide +kernel) (by decide +kernel)
set_option maxRecDepth 20000 in
theorem gX5_isLoose_X0_forbids : GoodIn wsX5_isLoose (wsV RX5 256 RX0 yX0_forbids wsX0_forbids) := goodIn_app (goodIn_of _ (by decide +kernel)) ggX5_isLoose_X0_forbids
theorem dX5_isLoose_0 : decode cX5_isLoose 0 = .ok (.aload_n 1, 1) := by decide +kernel
theorem dX5_isLoose_1 : decode cX5_isLoose 1 = .ok (.iload_n 2, 1) := by decide +kernel
theorem dX5_isLoose_2 : decode cX5_isLoose 2 = .ok (.invokevirtual 123, 3) := by decide +kernel
theorem dX5_isLoose_5 : decode cX5_isLoose 5 = .ok (.ifCond .ne 26, 3) := by decide +kernel
theorem dX5_isLoose_8 : decode cX5_isLoose 8 = .ok (.aload_n 0, 1) := by decide +kernel
theorem dX5_isLoose_9 : decode cX5_isLoose 9 = .ok (.getfield 19, 3) := by decide +kernel
theorem dX5_isLoose_12 : decode cX5_isLoose 12 = .ok (.aload_n 0, 1) := by decide +kernel
theorem dX5_isLoose_13 : decode cX5_isLoose 13 = .ok (.getfield 19, 3) := by decide +kernel
theorem dX5_isLoose_16 : decode cX5_isLoose 16 = .ok (.getfield 113, 3) := by decide +kernel
theorem dX5_isLoose_19 : decode cX5_isLoose 19 = .ok (.iload_n 2, 1) := by decide +kernel
theorem dX5_isLoose_20 : decode cX5_isLoose 20 = .ok (.iaload, 1) := by decide +kernel
theorem dX5_isLoose_21 : decode cX5_isLoose 21 = .ok (.invokevirtual 256, 3) := by decide +kernel
theorem dX5_isLoose_24 : decode cX5_isLoose 24 = .ok (.ifCond .ne 7, 3) := by decide +kernel
theorem dX5_isLoose_27 : decode cX5_isLoose 27 = .ok (.iconst 1, 1) := by decide +kernel
theorem dX5_isLoose_28 : decode cX5_isLoose 28 = .ok (.goto 4, 3) := by decide +kernel
theorem dX5_isLoose_31 : decode cX5_isLoose 31 = .ok (.iconst 0, 1) := by decide +kernel
theorem dX5_isLoose_32 : decode cX5_isLoose 32 = .ok (.ireturn, 1) := by decide +kernel
set_option maxRecDepth 20000 in
theorem ggX5_canBeBought_X4_howIs : GoodIn wsX5_canBeBought wsX4_howIs := goodIn_r _ [8, 9, 10, 33, 34, 35, 36, 37] (by decide +kernel) (by decide +kernel)
set_option maxRecDepth 20000 in
theorem gX5_canBeBought_X4_howIs : GoodIn wsX5_canBeBought (wsV RX5 123 RX4 yX4_howIs wsX4_howIs) := goodIn_app (goodIn_of _ (by decide +kernel)) ggX5_canBeBought_X4_howIs
theorem dX5_canBeBought_0 : decode cX5_canBeBought 0 = .ok (.aload_n 1, 1) := by decide +kernel
theorem dX5_canBeBought_1 : decode cX5_canBeBought 1 = .ok (.iload_n 2, 1) := by decide +kernel
theorem dX5_canBeBought_2 : decode cX5_canBeBought 2 = .ok (.invokevirtual 123, 3) := by decide +kernel
theorem dX5_canBeBought_5 : decode cX5_canBeBought 5 = .ok (.ifCond .ne 23, 3) := by decide +kernel
theorem dX5_canBeBought_8 : decode cX5_canBeBought 8 = .ok (.aload_n 0, 1) := by decide +kernel
theorem dX5_canBeBought_9 : decode cX5_canBeBought 9 = .ok (.getfield 19, 3) := by decide +kernel
theorem dX5_canBeBought_12 : decode cX5_canBeBought 12 = .ok (.getfield 120, 3) := by decide +kernel
theorem dX5_canBeBought_15 : decode cX5_canBeBought 15 = .ok (.iload_n 2, 1) := by decide +kernel
theorem dX5_canBeBought_16 : decode cX5_canBeBought 16 = .ok (.iaload, 1) := by decide +kernel
theorem dX5_canBeBought_17 : decode cX5_canBeBought 17 = .ok (.aload_n 1, 1) := by decide +kernel
theorem dX5_canBeBought_18 : decode cX5_canBeBought 18 = .ok (.getfield 172, 3) := by decide +kernel
theorem dX5_canBeBought_21 : decode cX5_canBeBought 21 = .ok (.if_icmp .gt 7, 3) := by decide +kernel
theorem dX5_canBeBought_24 : decode cX5_canBeBought 24 = .ok (.iconst 1, 1) := by decide +kernel
theorem dX5_canBeBought_25 : decode cX5_canBeBought 25 = .ok (.goto 4, 3) := by decide +kernel
theorem dX5_canBeBought_28 : decode cX5_canBeBought 28 = .ok (.iconst 0, 1) := by decide +kernel
theorem dX5_canBeBought_29 : decode cX5_canBeBought 29 = .ok (.ireturn, 1) := by decide +kernel
set_option maxRecDepth 20000 in
theorem ggX5_looseOnes_X5_isLoose : GoodIn wsX5_looseOnes wsX5_isLoose := goodIn_r _ [8, 1, 9, 10, 11, 12, 13, 14, 15, 16, 17, 18, 19, 20, 21, 22, 23, 24, 25, 26, 27, 28, 29, 30, 31, 32, 33, 34, 35, 36, 37, 38, 39, 40, 41, 42, 43, 44, 45, 46, 47, 48, 49] (by decide +kernel) (by decide +kernel)
set_option maxRecDepth 20000 in
theorem gX5_looseOnes_X5_isLoose : GoodIn wsX5_looseOnes (wsV RX5 130 RX5 yX5_isLoose wsX5_isLoose) := goodIn_app (goodIn_of _ (by decide +kernel)) ggX5_looseOnes_X5_isLoose
theorem dX5_looseOnes_0 : decode cX5_looseOnes 0 = .ok (.iconst 0, 1) := by decide +kernel
theorem dX5_looseOnes_1 : decode cX5_looseOnes 1 = .ok (.istore_n 1, 1) := by decide +kernel
theorem dX5_looseOnes_2 : decode cX5_looseOnes 2 = .ok (.iconst 0, 1) := by decide +kernel
theorem dX5_looseOnes_3 : decode cX5_looseOnes 3 = .ok (.istore_n 2, 1) := by decide +kernel
theorem dX5_looseOnes_4 : decode cX5_looseOnes 4 = .ok (.iload_n 2, 1) := by decide +kernel
theorem dX5_looseOnes_5 : decode cX5_looseOnes 5 = .ok (.aload_n 0, 1) := by decide +kernel
theorem dX5_looseOnes_6 : decode cX5_looseOnes 6 = .ok (.getfield 19, 3) := by decide +kernel
theorem dX5_looseOnes_9 : decode cX5_looseOnes 9 = .ok (.getfield 91, 3) := by decide +kernel
theorem dX5_looseOnes_12 : decode cX5_looseOnes 12 = .ok (.if_icmp .ge 27, 3) := by decide +kernel
theorem dX5_looseOnes_15 : decode cX5_looseOnes 15 = .ok (.aload_n 0, 1) := by decide +kernel
theorem dX5_looseOnes_16 : decode cX5_looseOnes 16 = .ok (.aload_n 0, 1) := by decide +kernel
theorem dX5_looseOnes_17 : decode cX5_looseOnes 17 = .ok (.getfield 29, 3) := by decide +kernel
theorem dX5_looseOnes_20 : decode cX5_looseOnes 20 = .ok (.iload_n 2, 1) := by decide +kernel
theorem dX5_looseOnes_21 : decode cX5_looseOnes 21 = .ok (.invokevirtual 130, 3) := by decide +kernel
theorem dX5_looseOnes_24 : decode cX5_looseOnes 24 = .ok (.ifCond .eq 9, 3) := by decide +kernel
theorem dX5_looseOnes_27 : decode cX5_looseOnes 27 = .ok (.iload_n 1, 1) := by decide +kernel
theorem dX5_looseOnes_28 : decode cX5_looseOnes 28 = .ok (.iconst 1, 1) := by decide +kernel
theorem dX5_looseOnes_29 : decode cX5_looseOnes 29 = .ok (.iload_n 2, 1) := by decide +kernel
theorem dX5_looseOnes_30 : decode cX5_looseOnes 30 = .ok (.ishl, 1) := by decide +kernel
theorem dX5_looseOnes_31 : decode cX5_looseOnes 31 = .ok (.ior, 1) := by decide +kernel
theorem dX5_looseOnes_32 : decode cX5_looseOnes 32 = .ok (.istore_n 1, 1) := by decide +kernel
theorem dX5_looseOnes_33 : decode cX5_looseOnes 33 = .ok (.iinc 2 1, 3) := by decide +kernel
theorem dX5_looseOnes_36 : decode cX5_looseOnes 36 = .ok (.goto (-32), 3) := by decide +kernel
theorem dX5_looseOnes_39 : decode cX5_looseOnes 39 = .ok (.iload_n 1, 1) := by decide +kernel
theorem dX5_looseOnes_40 : decode cX5_looseOnes 40 = .ok (.ireturn, 1) := by decide +kernel
set_option maxRecDepth 20000 in
theorem ggX5_looseTellers_X5_isLoose : GoodIn wsX5_looseTellers wsX5_isLoose := goodIn_r _ [8, 1, 9, 10, 11, 12, 13, 14, 15, 16, 17, 18, 19, 20, 21, 22, 45, 46, 47, 48, 49, 50, 51, 52, 53, 54, 55, 56, 57, 58, 59, 60, 61, 62, 63, 64, 65, 66, 67, 68, 69, 70, 71] (by decide +kernel) (by decide +kernel)
set_option maxRecDepth 20000 in
theorem gX5_looseTellers_X5_isLoose : GoodIn wsX5_looseTellers (wsV RX5 130 RX5 yX5_isLoose wsX5_isLoose) := goodIn_app (goodIn_of _ (by decide +kernel)) ggX5_looseTellers_X5_isLoose
set_option maxRecDepth 20000 in
theorem ggX5_looseTellers_X4_roomOf : GoodIn wsX5_looseTellers wsX4_roomOf := goodIn_r _ [26, 27, 67, 68, 69, 70, 71] (by decide +kernel) (by decide +kernel)
set_option maxRecDepth 20000 in
theorem gX5_looseTellers_X4_roomOf : GoodIn wsX5_looseTellers (wsV RX5 116 RX4 yX4_roomOf wsX4_roomOf) := goodIn_app (goodIn_of _ (by decide +kernel)) ggX5_looseTellers_X4_roomOf
set_option maxRecDepth 20000 in
theorem ggX5_looseTellers_X0_toldBy : GoodIn wsX5_looseTellers wsX0_toldBy := goodIn_r _ [31, 32, 33, 34, 35, 36, 37, 38, 39, 20, 40, 41, 42, 43, 44, 55, 56, 57, 58, 59, 60, 61, 62, 63, 64, 65, 66] (by decide +kernel) (by decide +kernel)
set_option maxRecDepth 20000 in
theorem gX5_looseTellers_X0_toldBy : GoodIn wsX5_looseTellers (wsV RX5 126 RX0 yX0_toldBy wsX0_toldBy) := goodIn_app (goodIn_of _ (by decide +kernel)) ggX5_looseTellers_X0_toldBy
theorem dX5_looseTellers_0 : decode cX5_looseTellers 0 = .ok (.iconst 0, 1) := by decide +kernel
theorem dX5_looseTellers_1 : decode cX5_looseTellers 1 = .ok (.istore_n 2, 1) := by decide +kernel
theorem dX5_looseTellers_2 : decode cX5_looseTellers 2 = .ok (.iconst 0, 1) := by decide +kernel
theorem dX5_looseTellers_3 : decode cX5_looseTellers 3 = .ok (.istore_n 3, 1) := by decide +kernel
theorem dX5_looseTellers_4 : decode cX5_looseTellers 4 = .ok (.iload_n 3, 1) := by decide +kernel
theorem dX5_looseTellers_5 : decode cX5_looseTellers 5 = .ok (.aload_n 0, 1) := by decide +kernel
theorem dX5_looseTellers_6 : decode cX5_looseTellers 6 = .ok (.getfield 19, 3) := by decide +kernel
theorem dX5_looseTellers_9 : decode cX5_looseTellers 9 = .ok (.getfield 91, 3) := by decide +kernel
theorem dX5_looseTellers_12 : decode cX5_looseTellers 12 = .ok (.if_icmp .ge 48, 3) := by decide +kernel
theorem dX5_looseTellers_15 : decode cX5_looseTellers 15 = .ok (.aload_n 0, 1) := by decide +kernel
theorem dX5_looseTellers_16 : decode cX5_looseTellers 16 = .ok (.aload_n 0, 1) := by decide +kernel
theorem dX5_looseTellers_17 : decode cX5_looseTellers 17 = .ok (.getfield 29, 3) := by decide +kernel
theorem dX5_looseTellers_20 : decode cX5_looseTellers 20 = .ok (.iload_n 3, 1) := by decide +kernel
theorem dX5_looseTellers_21 : decode cX5_looseTellers 21 = .ok (.invokevirtual 130, 3) := by decide +kernel
theorem dX5_looseTellers_24 : decode cX5_looseTellers 24 = .ok (.ifCond .eq 30, 3) := by decide +kernel
theorem dX5_looseTellers_27 : decode cX5_looseTellers 27 = .ok (.aload_n 0, 1) := by decide +kernel
theorem dX5_looseTellers_28 : decode cX5_looseTellers 28 = .ok (.getfield 19, 3) := by decide +kernel
theorem dX5_looseTellers_31 : decode cX5_looseTellers 31 = .ok (.iload_n 3, 1) := by decide +kernel
theorem dX5_looseTellers_32 : decode cX5_looseTellers 32 = .ok (.aload_n 0, 1) := by decide +kernel
theorem dX5_looseTellers_33 : decode cX5_looseTellers 33 = .ok (.getfield 29, 3) := by decide +kernel
theorem dX5_looseTellers_36 : decode cX5_looseTellers 36 = .ok (.iload_n 3, 1) := by decide +kernel
theorem dX5_looseTellers_37 : decode cX5_looseTellers 37 = .ok (.invokevirtual 116, 3) := by decide +kernel
theorem dX5_looseTellers_40 : decode cX5_looseTellers 40 = .ok (.invokevirtual 126, 3) := by decide +kernel
theorem dX5_looseTellers_43 : decode cX5_looseTellers 43 = .ok (.iload_n 1, 1) := by decide +kernel
theorem dX5_looseTellers_44 : decode cX5_looseTellers 44 = .ok (.iand, 1) := by decide +kernel
theorem dX5_looseTellers_45 : decode cX5_looseTellers 45 = .ok (.ifCond .eq 9, 3) := by decide +kernel
theorem dX5_looseTellers_48 : decode cX5_looseTellers 48 = .ok (.iload_n 2, 1) := by decide +kernel
theorem dX5_looseTellers_49 : decode cX5_looseTellers 49 = .ok (.iconst 1, 1) := by decide +kernel
theorem dX5_looseTellers_50 : decode cX5_looseTellers 50 = .ok (.iload_n 3, 1) := by decide +kernel
theorem dX5_looseTellers_51 : decode cX5_looseTellers 51 = .ok (.ishl, 1) := by decide +kernel
theorem dX5_looseTellers_52 : decode cX5_looseTellers 52 = .ok (.ior, 1) := by decide +kernel
theorem dX5_looseTellers_53 : decode cX5_looseTellers 53 = .ok (.istore_n 2, 1) := by decide +kernel
theorem dX5_looseTellers_54 : decode cX5_looseTellers 54 = .ok (.iinc 3 1, 3) := by decide +kernel
theorem dX5_looseTellers_57 : decode cX5_looseTellers 57 = .ok (.goto (-53), 3) := by decide +kernel
theorem dX5_looseTellers_60 : decode cX5_looseTellers 60 = .ok (.iload_n 2, 1) := by decide +kernel
theorem dX5_looseTellers_61 : decode cX5_looseTellers 61 = .ok (.ireturn, 1) := by decide +kernel
set_option maxRecDepth 20000 in
theorem ggX5_fillTold_X4_roomOf : GoodIn wsX5_fillTold wsX4_roomOf := goodIn_r _ [9, 10, 51, 52, 53, 54, 55] (by decide +kernel) (by decide +kernel)
set_option maxRecDepth 20000 in
theorem gX5_fillTold_X4_roomOf : GoodIn wsX5_fillTold (wsV RX5 116 RX4 yX4_roomOf wsX4_roomOf) := goodIn_app (goodIn_of _ (by decide +kernel)) ggX5_fillTold_X4_roomOf
set_option maxRecDepth 20000 in
theorem ggX5_fillTold_X0_toldBy : GoodIn wsX5_fillTold wsX0_toldBy := goodIn_r _ [15, 16, 17, 18, 19, 20, 21, 22, 23, 14, 24, 25, 26, 27, 28, 39, 40, 41, 42, 43, 44, 45, 46, 47, 48, 49, 50] (by decide +kernel) (by decide +kernel)
set_option maxRecDepth 20000 in
theorem gX5_fillTold_X0_toldBy : GoodIn wsX5_fillTold (wsV RX5 126 RX0 yX0_toldBy wsX0_toldBy) := goodIn_app (goodIn_of _ (by decide +kernel)) ggX5_fillTold_X0_toldBy
theorem dX5_fillTold_0 : decode cX5_fillTold 0 = .ok (.iconst 0, 1) := by decide +kernel
theorem dX5_fillTold_1 : decode cX5_fillTold 1 = .ok (.istore_n 1, 1) := by decide +kernel
theorem dX5_fillTold_2 : decode cX5_fillTold 2 = .ok (.iload_n 1, 1) := by decide +kernel
theorem dX5_fillTold_3 : decode cX5_fillTold 3 = .ok (.aload_n 0, 1) := by decide +kernel
theorem dX5_fillTold_4 : decode cX5_fillTold 4 = .ok (.getfield 19, 3) := by decide +kernel
theorem dX5_fillTold_7 : decode cX5_fillTold 7 = .ok (.getfield 91, 3) := by decide +kernel
theorem dX5_fillTold_10 : decode cX5_fillTold 10 = .ok (.if_icmp .ge 31, 3) := by decide +kernel
theorem dX5_fillTold_13 : decode cX5_fillTold 13 = .ok (.aload_n 0, 1) := by decide +kernel
theorem dX5_fillTold_14 : decode cX5_fillTold 14 = .ok (.getfield 54, 3) := by decide +kernel
theorem dX5_fillTold_17 : decode cX5_fillTold 17 = .ok (.iload_n 1, 1) := by decide +kernel
theorem dX5_fillTold_18 : decode cX5_fillTold 18 = .ok (.aload_n 0, 1) := by decide +kernel
theorem dX5_fillTold_19 : decode cX5_fillTold 19 = .ok (.getfield 19, 3) := by decide +kernel
theorem dX5_fillTold_22 : decode cX5_fillTold 22 = .ok (.iload_n 1, 1) := by decide +kernel
theorem dX5_fillTold_23 : decode cX5_fillTold 23 = .ok (.aload_n 0, 1) := by decide +kernel
theorem dX5_fillTold_24 : decode cX5_fillTold 24 = .ok (.getfield 29, 3) := by decide +kernel
theorem dX5_fillTold_27 : decode cX5_fillTold 27 = .ok (.iload_n 1, 1) := by decide +kernel
theorem dX5_fillTold_28 : decode cX5_fillTold 28 = .ok (.invokevirtual 116, 3) := by decide +kernel
theorem dX5_fillTold_31 : decode cX5_fillTold 31 = .ok (.invokevirtual 126, 3) := by decide +kernel
theorem dX5_fillTold_34 : decode cX5_fillTold 34 = .ok (.iastore, 1) := by decide +kernel
theorem dX5_fillTold_35 : decode cX5_fillTold 35 = .ok (.iinc 1 1, 3) := by decide +kernel
theorem dX5_fillTold_38 : decode cX5_fillTold 38 = .ok (.goto (-36), 3) := by decide +kernel
theorem dX5_fillTold_41 : decode cX5_fillTold 41 = .ok (.return_, 1) := by decide +kernel
theorem dX5_toldBySet_0 : decode cX5_toldBySet 0 = .ok (.iconst 0, 1) := by decide +kernel
theorem dX5_toldBySet_1 : decode cX5_toldBySet 1 = .ok (.istore_n 2, 1) := by decide +kernel
theorem dX5_toldBySet_2 : decode cX5_toldBySet 2 = .ok (.iconst 0, 1) := by decide +kernel
theorem dX5_toldBySet_3 : decode cX5_toldBySet 3 = .ok (.istore_n 3, 1) := by decide +kernel
theorem dX5_toldBySet_4 : decode cX5_toldBySet 4 = .ok (.iload_n 3, 1) := by decide +kernel
theorem dX5_toldBySet_5 : decode cX5_toldBySet 5 = .ok (.aload_n 0, 1) := by decide +kernel
theorem dX5_toldBySet_6 : decode cX5_toldBySet 6 = .ok (.getfield 19, 3) := by decide +kernel
theorem dX5_toldBySet_9 : decode cX5_toldBySet 9 = .ok (.getfield 91, 3) := by decide +kernel
theorem dX5_toldBySet_12 : decode cX5_toldBySet 12 = .ok (.if_icmp .ge 27, 3) := by decide +kernel
theorem dX5_toldBySet_15 : decode cX5_toldBySet 15 = .ok (.iload_n 1, 1) := by decide +kernel
theorem dX5_toldBySet_16 : decode cX5_toldBySet 16 = .ok (.iload_n 3, 1) := by decide +kernel
theorem dX5_toldBySet_17 : decode cX5_toldBySet 17 = .ok (.ishr, 1) := by decide +kernel
theorem dX5_toldBySet_18 : decode cX5_toldBySet 18 = .ok (.iconst 1, 1) := by decide +kernel
theorem dX5_toldBySet_19 : decode cX5_toldBySet 19 = .ok (.iand, 1) := by decide +kernel
theorem dX5_toldBySet_20 : decode cX5_toldBySet 20 = .ok (.iconst 1, 1) := by decide +kernel
theorem dX5_toldBySet_21 : decode cX5_toldBySet 21 = .ok (.if_icmp .ne 12, 3) := by decide +kernel
theorem dX5_toldBySet_24 : decode cX5_toldBySet 24 = .ok (.iload_n 2, 1) := by decide +kernel
theorem dX5_toldBySet_25 : decode cX5_toldBySet 25 = .ok (.aload_n 0, 1) := by decide +kernel
theorem dX5_toldBySet_26 : decode cX5_toldBySet 26 = .ok (.getfield 54, 3) := by decide +kernel
theorem dX5_toldBySet_29 : decode cX5_toldBySet 29 = .ok (.iload_n 3, 1) := by decide +kernel
theorem dX5_toldBySet_30 : decode cX5_toldBySet 30 = .ok (.iaload, 1) := by decide +kernel
theorem dX5_toldBySet_31 : decode cX5_toldBySet 31 = .ok (.ior, 1) := by decide +kernel
theorem dX5_toldBySet_32 : decode cX5_toldBySet 32 = .ok (.istore_n 2, 1) := by decide +kernel
theorem dX5_toldBySet_33 : decode cX5_toldBySet 33 = .ok (.iinc 3 1, 3) := by decide +kernel
theorem dX5_toldBySet_36 : decode cX5_toldBySet 36 = .ok (.goto (-32), 3) := by decide +kernel
theorem dX5_toldBySet_39 : decode cX5_toldBySet 39 = .ok (.iload_n 2, 1) := by decide +kernel
theorem dX5_toldBySet_40 : decode cX5_toldBySet 40 = .ok (.ireturn, 1) := by decide +kernel
set_option maxRecDepth 20000 in
theorem ggX5_weightLeft_X5_toldBySet : GoodIn wsX5_weightLeft wsX5_toldBySet := goodIn_r _ [8, 1, 9, 10, 18, 19, 20, 21, 22, 23, 24, 25, 26, 27, 33, 34, 35, 36, 37, 38, 39, 40, 41, 42, 43, 44] (by decide +kernel) (by decide +kernel)
set_option maxRecDepth 20000 in
theorem gX5_weightLeft_X5_toldBySet : GoodIn wsX5_weightLeft (wsV RX5 212 RX5 yX5_toldBySet wsX5_toldBySet) := goodIn_app (goodIn_of _ (by decide +kernel)) ggX5_weightLeft_X5_toldBySet
set_option maxRecDepth 20000 in
theorem ggX5_weightLeft_X0_weightOf : GoodIn wsX5_weightLeft wsX0_weightOf := goodIn_r _ [15, 16, 17, 33, 34, 35, 36, 37, 38, 39, 40, 41, 42, 43, 44] (by decide +kernel) (by decide +kernel)
set_option maxRecDepth 20000 in
theorem gX5_weightLeft_X0_weightOf : GoodIn wsX5_weightLeft (wsV RX5 230 RX0 yX0_weightOf wsX0_weightOf) := goodIn_app (goodIn_of _ (by decide +kernel)) ggX5_weightLeft_X0_weightOf
theorem dX5_weightLeft_0 : decode cX5_weightLeft 0 = .ok (.aload_n 0, 1) := by decide +kernel
theorem dX5_weightLeft_1 : decode cX5_weightLeft 1 = .ok (.getfield 19, 3) := by decide +kernel
theorem dX5_weightLeft_4 : decode cX5_weightLeft 4 = .ok (.aload_n 0, 1) := by decide +kernel
theorem dX5_weightLeft_5 : decode cX5_weightLeft 5 = .ok (.iload_n 1, 1) := by decide +kernel
theorem dX5_weightLeft_6 : decode cX5_weightLeft 6 = .ok (.invokevirtual 212, 3) := by decide +kernel
theorem dX5_weightLeft_9 : decode cX5_weightLeft 9 = .ok (.aload_n 0, 1) := by decide +kernel
theorem dX5_weightLeft_10 : decode cX5_weightLeft 10 = .ok (.getfield 29, 3) := by decide +kernel
theorem dX5_weightLeft_13 : decode cX5_weightLeft 13 = .ok (.getfield 191, 3) := by decide +kernel
theorem dX5_weightLeft_16 : decode cX5_weightLeft 16 = .ok (.iconst (-1), 1) := by decide +kernel
theorem dX5_weightLeft_17 : decode cX5_weightLeft 17 = .ok (.ixor, 1) := by decide +kernel
theorem dX5_weightLeft_18 : decode cX5_weightLeft 18 = .ok (.iand, 1) := by decide +kernel
theorem dX5_weightLeft_19 : decode cX5_weightLeft 19 = .ok (.invokevirtual 230, 3) := by decide +kernel
theorem dX5_weightLeft_22 : decode cX5_weightLeft 22 = .ok (.ireturn, 1) := by decide +kernel
set_option maxRecDepth 20000 in
theorem ggX5_silence_X5_looseTellers : GoodIn wsX5_silence wsX5_looseTellers := goodIn_r _ [6, 1, 7, 8, 9, 10, 11, 5, 12, 13, 14, 15, 16, 17, 18, 19, 20, 21, 22, 23, 24, 25, 26, 27, 28, 29, 30, 31, 32, 33, 34, 35, 36, 37, 38, 39, 40, 41, 42, 43, 44, 45, 46, 47, 48, 55, 56, 57, 58, 59, 60, 61, 62, 63, 64, 65, 66, 67, 68, 69, 70, 71, 72, 73, 74, 75, 76, 77, 78, 79, 80, 81] (by decide +kernel) (by decide +kernel)
set_option maxRecDepth 20000 in
theorem gX5_silence_X5_looseTellers : GoodIn wsX5_silence (wsV RX5 152 RX5 yX5_looseTellers wsX5_looseTellers) := goodIn_app (goodIn_of _ (by decide +kernel)) ggX5_silence_X5_looseTellers
set_option maxRecDepth 20000 in
theorem ggX5_silence_X0_priceOf : GoodIn wsX5_silence wsX0_priceOf := goodIn_r _ [52, 53, 54, 65, 66, 67, 68, 69, 70, 71, 72, 73, 74, 75, 76] (by decide +kernel) (by decide +kernel)
set_option maxRecDepth 20000 in
theorem gX5_silence_X0_priceOf : GoodIn wsX5_silence (wsV RX5 209 RX0 yX0_priceOf wsX0_priceOf) := goodIn_app (goodIn_of _ (by decide +kernel)) ggX5_silence_X0_priceOf
theorem dX5_silence_0 : decode cX5_silence 0 = .ok (.aload_n 0, 1) := by decide +kernel
theorem dX5_silence_1 : decode cX5_silence 1 = .ok (.iload_n 1, 1) := by decide +kernel
theorem dX5_silence_2 : decode cX5_silence 2 = .ok (.invokevirtual 152, 3) := by decide +kernel
theorem dX5_silence_5 : decode cX5_silence 5 = .ok (.istore_n 3, 1) := by decide +kernel
theorem dX5_silence_6 : decode cX5_silence 6 = .ok (.iload_n 2, 1) := by decide +kernel
theorem dX5_silence_7 : decode cX5_silence 7 = .ok (.ifCond .ne 14, 3) := by decide +kernel
theorem dX5_silence_10 : decode cX5_silence 10 = .ok (.aload_n 0, 1) := by decide +kernel
theorem dX5_silence_11 : decode cX5_silence 11 = .ok (.getfield 19, 3) := by decide +kernel
theorem dX5_silence_14 : decode cX5_silence 14 = .ok (.iload_n 3, 1) := by decide +kernel
theorem dX5_silence_15 : decode cX5_silence 15 = .ok (.invokevirtual 209, 3) := by decide +kernel
theorem dX5_silence_18 : decode cX5_silence 18 = .ok (.goto 4, 3) := by decide +kernel
theorem dX5_silence_21 : decode cX5_silence 21 = .ok (.iload_n 3, 1) := by decide +kernel
theorem dX5_silence_22 : decode cX5_silence 22 = .ok (.ireturn, 1) := by decide +kernel
set_option maxRecDepth 20000 in
theorem ggX5_loudest_X0_weightOf : GoodIn wsX5_loudest wsX0_weightOf := goodIn_r _ [8, 9, 10, 21, 22, 23, 24, 25, 26, 27, 28, 29, 30, 31, 32] (by decide +kernel) (by decide +kernel)
set_option maxRecDepth 20000 in
theorem gX5_loudest_X0_weightOf : GoodIn wsX5_loudest (wsV RX5 230 RX0 yX0_weightOf wsX0_weightOf) := goodIn_app (goodIn_of _ (by decide +kernel)) ggX5_loudest_X0_weightOf
theorem dX5_loudest_0 : decode cX5_loudest 0 = .ok (.iconst (-1), 1) := by decide +kernel
theorem dX5_loudest_1 : decode cX5_loudest 1 = .ok (.istore_n 3, 1) := by decide +kernel
theorem dX5_loudest_2 : decode cX5_loudest 2 = .ok (.iconst 0, 1) := by decide +kernel
theorem dX5_loudest_3 : decode cX5_loudest 3 = .ok (.istore 4, 2) := by decide +kernel
theorem dX5_loudest_5 : decode cX5_loudest 5 = .ok (.iconst 0, 1) := by decide +kernel
theorem dX5_loudest_6 : decode cX5_loudest 6 = .ok (.istore 5, 2) := by decide +kernel
theorem dX5_loudest_8 : decode cX5_loudest 8 = .ok (.iload 5, 2) := by decide +kernel
theorem dX5_loudest_10 : decode cX5_loudest 10 = .ok (.aload_n 0, 1) := by decide +kernel
theorem dX5_loudest_11 : decode cX5_loudest 11 = .ok (.getfield 19, 3) := by decide +kernel
theorem dX5_loudest_14 : decode cX5_loudest 14 = .ok (.getfield 91, 3) := by decide +kernel
theorem dX5_loudest_17 : decode cX5_loudest 17 = .ok (.if_icmp .ge 53, 3) := by decide +kernel
theorem dX5_loudest_20 : decode cX5_loudest 20 = .ok (.aload_n 0, 1) := by decide +kernel
theorem dX5_loudest_21 : decode cX5_loudest 21 = .ok (.getfield 19, 3) := by decide +kernel
theorem dX5_loudest_24 : decode cX5_loudest 24 = .ok (.aload_n 0, 1) := by decide +kernel
theorem dX5_loudest_25 : decode cX5_loudest 25 = .ok (.getfield 54, 3) := by decide +kernel
theorem dX5_loudest_28 : decode cX5_loudest 28 = .ok (.iload 5, 2) := by decide +kernel
theorem dX5_loudest_30 : decode cX5_loudest 30 = .ok (.iaload, 1) := by decide +kernel
theorem dX5_loudest_31 : decode cX5_loudest 31 = .ok (.iload_n 2, 1) := by decide +kernel
theorem dX5_loudest_32 : decode cX5_loudest 32 = .ok (.iconst (-1), 1) := by decide +kernel
theorem dX5_loudest_33 : decode cX5_loudest 33 = .ok (.ixor, 1) := by decide +kernel
theorem dX5_loudest_34 : decode cX5_loudest 34 = .ok (.iand, 1) := by decide +kernel
theorem dX5_loudest_35 : decode cX5_loudest 35 = .ok (.invokevirtual 230, 3) := by decide +kernel
theorem dX5_loudest_38 : decode cX5_loudest 38 = .ok (.istore 6, 2) := by decide +kernel
theorem dX5_loudest_40 : decode cX5_loudest 40 = .ok (.iload_n 1, 1) := by decide +kernel
theorem dX5_loudest_41 : decode cX5_loudest 41 = .ok (.iload 5, 2) := by decide +kernel
theorem dX5_loudest_43 : decode cX5_loudest 43 = .ok (.ishr, 1) := by decide +kernel
theorem dX5_loudest_44 : decode cX5_loudest 44 = .ok (.iconst 1, 1) := by decide +kernel
theorem dX5_loudest_45 : decode cX5_loudest 45 = .ok (.iand, 1) := by decide +kernel
theorem dX5_loudest_46 : decode cX5_loudest 46 = .ok (.iconst 1, 1) := by decide +kernel
theorem dX5_loudest_47 : decode cX5_loudest 47 = .ok (.if_icmp .ne 17, 3) := by decide +kernel
theorem dX5_loudest_50 : decode cX5_loudest 50 = .ok (.iload 6, 2) := by decide +kernel
theorem dX5_loudest_52 : decode cX5_loudest 52 = .ok (.iload 4, 2) := by decide +kernel
theorem dX5_loudest_54 : decode cX5_loudest 54 = .ok (.if_icmp .le 10, 3) := by decide +kernel
theorem dX5_loudest_57 : decode cX5_loudest 57 = .ok (.iload 6, 2) := by decide +kernel
theorem dX5_loudest_59 : decode cX5_loudest 59 = .ok (.istore 4, 2) := by decide +kernel
theorem dX5_loudest_61 : decode cX5_loudest 61 = .ok (.iload 5, 2) := by decide +kernel
theorem dX5_loudest_63 : decode cX5_loudest 63 = .ok (.istore_n 3, 1) := by decide +kernel
theorem dX5_loudest_64 : decode cX5_loudest 64 = .ok (.iinc 5 1, 3) := by decide +kernel
theorem dX5_loudest_67 : decode cX5_loudest 67 = .ok (.goto (-59), 3) := by decide +kernel
theorem dX5_loudest_70 : decode cX5_loudest 70 = .ok (.iload_n 3, 1) := by decide +kernel
theorem dX5_loudest_71 : decode cX5_loudest 71 = .ok (.ireturn, 1) := by decide +kernel
set_option maxRecDepth 20000 in
theorem ggX5_roomsThatMay_X5_agreesWithSeen : GoodIn wsX5_roomsThatMay wsX5_agreesWithSeen := goodIn_r _ [7, 8, 9, 10, 11, 12, 1, 13, 14, 15, 16, 17, 18, 6, 19, 20, 21, 22, 23, 24, 25, 26, 27, 28, 29, 30, 31, 32, 33, 34, 35, 36, 37, 38, 39, 40, 41, 42, 43, 44, 45, 46, 47, 48, 49, 50, 51, 64, 65, 66, 67, 52, 53, 54, 55, 56, 57, 58, 59, 60, 61, 62, 63, 68, 69, 70, 71, 72] (by decide +kernel) (by decide +kernel)
set_option maxRecDepth 20000 in
theorem gX5_roomsThatMay_X5_agreesWithSeen : GoodIn wsX5_roomsThatMay (wsV RX5 259 RX5 yX5_agreesWithSeen wsX5_agreesWithSeen) := goodIn_app (goodIn_of _ (by decide +kernel)) ggX5_roomsThatMay_X5_agreesWithSeen
theorem dX5_roomsThatMay_0 : decode cX5_roomsThatMay 0 = .ok (.iconst 0, 1) := by decide +kernel
theorem dX5_roomsThatMay_1 : decode cX5_roomsThatMay 1 = .ok (.istore_n 2, 1) := by decide +kernel
theorem dX5_roomsThatMay_2 : decode cX5_roomsThatMay 2 = .ok (.iconst 0, 1) := by decide +kernel
theorem dX5_roomsThatMay_3 : decode cX5_roomsThatMay 3 = .ok (.istore_n 3, 1) := by decide +kernel
theorem dX5_roomsThatMay_4 : decode cX5_roomsThatMay 4 = .ok (.iload_n 3, 1) := by decide +kernel
theorem dX5_roomsThatMay_5 : decode cX5_roomsThatMay 5 = .ok (.iconst 4, 1) := by decide +kernel
theorem dX5_roomsThatMay_6 : decode cX5_roomsThatMay 6 = .ok (.if_icmp .ge 33, 3) := by decide +kernel
theorem dX5_roomsThatMay_9 : decode cX5_roomsThatMay 9 = .ok (.aload_n 0, 1) := by decide +kernel
theorem dX5_roomsThatMay_10 : decode cX5_roomsThatMay 10 = .ok (.iload_n 1, 1) := by decide +kernel
theorem dX5_roomsThatMay_11 : decode cX5_roomsThatMay 11 = .ok (.iload_n 3, 1) := by decide +kernel
theorem dX5_roomsThatMay_12 : decode cX5_roomsThatMay 12 = .ok (.aload_n 0, 1) := by decide +kernel
theorem dX5_roomsThatMay_13 : decode cX5_roomsThatMay 13 = .ok (.getfield 19, 3) := by decide +kernel
theorem dX5_roomsThatMay_16 : decode cX5_roomsThatMay 16 = .ok (.getfield 143, 3) := by decide +kernel
theorem dX5_roomsThatMay_19 : decode cX5_roomsThatMay 19 = .ok (.iload_n 1, 1) := by decide +kernel
theorem dX5_roomsThatMay_20 : decode cX5_roomsThatMay 20 = .ok (.iaload, 1) := by decide +kernel
theorem dX5_roomsThatMay_21 : decode cX5_roomsThatMay 21 = .ok (.invokevirtual 259, 3) := by decide +kernel
theorem dX5_roomsThatMay_24 : decode cX5_roomsThatMay 24 = .ok (.ifCond .eq 9, 3) := by decide +kernel
theorem dX5_roomsThatMay_27 : decode cX5_roomsThatMay 27 = .ok (.iload_n 2, 1) := by decide +kernel
theorem dX5_roomsThatMay_28 : decode cX5_roomsThatMay 28 = .ok (.iconst 1, 1) := by decide +kernel
theorem dX5_roomsThatMay_29 : decode cX5_roomsThatMay 29 = .ok (.iload_n 3, 1) := by decide +kernel
theorem dX5_roomsThatMay_30 : decode cX5_roomsThatMay 30 = .ok (.ishl, 1) := by decide +kernel
theorem dX5_roomsThatMay_31 : decode cX5_roomsThatMay 31 = .ok (.ior, 1) := by decide +kernel
theorem dX5_roomsThatMay_32 : decode cX5_roomsThatMay 32 = .ok (.istore_n 2, 1) := by decide +kernel
theorem dX5_roomsThatMay_33 : decode cX5_roomsThatMay 33 = .ok (.iinc 3 1, 3) := by decide +kernel
theorem dX5_roomsThatMay_36 : decode cX5_roomsThatMay 36 = .ok (.goto (-32), 3) := by decide +kernel
theorem dX5_roomsThatMay_39 : decode cX5_roomsThatMay 39 = .ok (.iload_n 2, 1) := by decide +kernel
theorem dX5_roomsThatMay_40 : decode cX5_roomsThatMay 40 = .ok (.ireturn, 1) := by decide +kernel
set_option maxRecDepth 20000 in
theorem ggX5_hoursThatMay_X5_agreesWithSeen : GoodIn wsX5_hoursThatMay wsX5_agreesWithSeen := goodIn_r _ [7, 8, 9, 10, 11, 12, 1, 13, 14, 15, 16, 17, 18, 6, 19, 20, 21, 22, 23, 24, 25, 26, 27, 28, 29, 30, 31, 32, 33, 34, 35, 36, 37, 38, 39, 40, 41, 42, 43, 44, 45, 46, 47, 48, 49, 50, 51, 64, 65, 66, 67, 52, 53, 54, 55, 56, 57, 58, 59, 60, 61, 62, 63, 68, 69, 70, 71, 72] (by decide +kernel) (by decide +kernel)
set_option maxRecDepth 20000 in
theorem gX5_hoursThatMay_X5_agreesWithSeen : GoodIn wsX5_hoursThatMay (wsV RX5 259 RX5 yX5_agreesWithSeen wsX5_agreesWithSeen) := goodIn_app (goodIn_of _ (by decide +kernel)) ggX5_hoursThatMay_X5_agreesWithSeen
theorem dX5_hoursThatMay_0 : decode cX5_hoursThatMay 0 = .ok (.iconst 0, 1) := by decide +kernel
theorem dX5_hoursThatMay_1 : decode cX5_hoursThatMay 1 = .ok (.istore_n 2, 1) := by decide +kernel
theorem dX5_hoursThatMay_2 : decode cX5_hoursThatMay 2 = .ok (.iconst 0, 1) := by decide +kernel
theorem dX5_hoursThatMay_3 : decode cX5_hoursThatMay 3 = .ok (.istore_n 3, 1) := by decide +kernel
theorem dX5_hoursThatMay_4 : decode cX5_hoursThatMay 4 = .ok (.iload_n 3, 1) := by decide +kernel
theorem dX5_hoursThatMay_5 : decode cX5_hoursThatMay 5 = .ok (.bipush 24, 2) := by decide +kernel
theorem dX5_hoursThatMay_7 : decode cX5_hoursThatMay 7 = .ok (.if_icmp .ge 33, 3) := by decide +kernel
theorem dX5_hoursThatMay_10 : decode cX5_hoursThatMay 10 = .ok (.aload_n 0, 1) := by decide +kernel
theorem dX5_hoursThatMay_11 : decode cX5_hoursThatMay 11 = .ok (.iload_n 1, 1) := by decide +kernel
theorem dX5_hoursThatMay_12 : decode cX5_hoursThatMay 12 = .ok (.aload_n 0, 1) := by decide +kernel
theorem dX5_hoursThatMay_13 : decode cX5_hoursThatMay 13 = .ok (.getfield 19, 3) := by decide +kernel
theorem dX5_hoursThatMay_16 : decode cX5_hoursThatMay 16 = .ok (.getfield 140, 3) := by decide +kernel
theorem dX5_hoursThatMay_19 : decode cX5_hoursThatMay 19 = .ok (.iload_n 1, 1) := by decide +kernel
theorem dX5_hoursThatMay_20 : decode cX5_hoursThatMay 20 = .ok (.iaload, 1) := by decide +kernel
theorem dX5_hoursThatMay_21 : decode cX5_hoursThatMay 21 = .ok (.iload_n 3, 1) := by decide +kernel
theorem dX5_hoursThatMay_22 : decode cX5_hoursThatMay 22 = .ok (.invokevirtual 259, 3) := by decide +kernel
theorem dX5_hoursThatMay_25 : decode cX5_hoursThatMay 25 = .ok (.ifCond .eq 9, 3) := by decide +kernel
theorem dX5_hoursThatMay_28 : decode cX5_hoursThatMay 28 = .ok (.iload_n 2, 1) := by decide +kernel
theorem dX5_hoursThatMay_29 : decode cX5_hoursThatMay 29 = .ok (.iconst 1, 1) := by decide +kernel
theorem dX5_hoursThatMay_30 : decode cX5_hoursThatMay 30 = .ok (.iload_n 3, 1) := by decide +kernel
theorem dX5_hoursThatMay_31 : decode cX5_hoursThatMay 31 = .ok (.ishl, 1) := by decide +kernel
theorem dX5_hoursThatMay_32 : decode cX5_hoursThatMay 32 = .ok (.ior, 1) := by decide +kernel
theorem dX5_hoursThatMay_33 : decode cX5_hoursThatMay 33 = .ok (.istore_n 2, 1) := by decide +kernel
theorem dX5_hoursThatMay_34 : decode cX5_hoursThatMay 34 = .ok (.iinc 3 1, 3) := by decide +kernel
theorem dX5_hoursThatMay_37 : decode cX5_hoursThatMay 37 = .ok (.goto (-33), 3) := by decide +kernel
theorem dX5_hoursThatMay_40 : decode cX5_hoursThatMay 40 = .ok (.iload_n 2, 1) := by decide +kernel
theorem dX5_hoursThatMay_41 : decode cX5_hoursThatMay 41 = .ok (.ireturn, 1) := by decide +kernel
set_option maxRecDepth 20000 in
theorem ggX5_agreesWithSeen_X5_isPiece : GoodIn wsX5_agreesWithSeen wsX5_isPiece := goodIn_r _ [14, 6, 15, 16, 17, 13, 18, 37, 38, 39, 40, 41, 42, 43, 44, 45, 46, 51, 52, 53, 54, 55, 56, 57, 58, 59, 60, 61, 62] (by decide +kernel) (by decide +kernel)
set_option maxRecDepth 20000 in
theorem gX5_agreesWithSeen_X5_isPiece : GoodIn wsX5_agreesWithSeen (wsV RX5 109 RX5 yX5_isPiece wsX5_isPiece) := goodIn_app (goodIn_of _ (by decide +kernel)) ggX5_agreesWithSeen_X5_isPiece
set_option maxRecDepth 20000 in
theorem ggX5_agreesWithSeen_X4_roomOf : GoodIn wsX5_agreesWithSeen wsX4_roomOf := goodIn_r _ [23, 24, 63, 64, 65, 66, 67] (by decide +kernel) (by decide +kernel)
set_option maxRecDepth 20000 in
theorem gX5_agreesWithSeen_X4_roomOf : GoodIn wsX5_agreesWithSeen (wsV RX5 116 RX4 yX4_roomOf wsX4_roomOf) := goodIn_app (goodIn_of _ (by decide +kernel)) ggX5_agreesWithSeen_X4_roomOf
set_option maxRecDepth 20000 in
theorem ggX5_agreesWithSeen_X0_wouldTell : GoodIn wsX5_agreesWithSeen wsX0_wouldTell := goodIn_r _ [29, 30, 31, 32, 28, 33, 34, 35, 36, 51, 52, 53, 54, 55, 56, 57, 58, 59, 60, 61, 62] (by decide +kernel) (by decide +kernel)
set_option maxRecDepth 20000 in
theorem gX5_agreesWithSeen_X0_wouldTell : GoodIn wsX5_agreesWithSeen (wsV RX5 223 RX0 yX0_wouldTell wsX0_wouldTell) := goodIn_app (goodIn_of _ (by decide +kernel)) ggX5_agreesWithSeen_X0_wouldTell
theorem dX5_agreesWithSeen_0 : decode cX5_agreesWithSeen 0 = .ok (.iconst 0, 1) := by decide +kernel
theorem dX5_agreesWithSeen_1 : decode cX5_agreesWithSeen 1 = .ok (.istore 4, 2) := by decide +kernel
theorem dX5_agreesWithSeen_3 : decode cX5_agreesWithSeen 3 = .ok (.iload 4, 2) := by decide +kernel
theorem dX5_agreesWithSeen_5 : decode cX5_agreesWithSeen 5 = .ok (.aload_n 0, 1) := by decide +kernel
theorem dX5_agreesWithSeen_6 : decode cX5_agreesWithSeen 6 = .ok (.getfield 46, 3) := by decide +kernel
theorem dX5_agreesWithSeen_9 : decode cX5_agreesWithSeen 9 = .ok (.getfield 236, 3) := by decide +kernel
theorem dX5_agreesWithSeen_12 : decode cX5_agreesWithSeen 12 = .ok (.if_icmp .ge 113, 3) := by decide +kernel
theorem dX5_agreesWithSeen_15 : decode cX5_agreesWithSeen 15 = .ok (.aload_n 0, 1) := by decide +kernel
theorem dX5_agreesWithSeen_16 : decode cX5_agreesWithSeen 16 = .ok (.getfield 46, 3) := by decide +kernel
theorem dX5_agreesWithSeen_19 : decode cX5_agreesWithSeen 19 = .ok (.getfield 262, 3) := by decide +kernel
theorem dX5_agreesWithSeen_22 : decode cX5_agreesWithSeen 22 = .ok (.iload 4, 2) := by decide +kernel
theorem dX5_agreesWithSeen_24 : decode cX5_agreesWithSeen 24 = .ok (.iaload, 1) := by decide +kernel
theorem dX5_agreesWithSeen_25 : decode cX5_agreesWithSeen 25 = .ok (.istore 5, 2) := by decide +kernel
theorem dX5_agreesWithSeen_27 : decode cX5_agreesWithSeen 27 = .ok (.aload_n 0, 1) := by decide +kernel
theorem dX5_agreesWithSeen_28 : decode cX5_agreesWithSeen 28 = .ok (.getfield 46, 3) := by decide +kernel
theorem dX5_agreesWithSeen_31 : decode cX5_agreesWithSeen 31 = .ok (.getfield 264, 3) := by decide +kernel
theorem dX5_agreesWithSeen_34 : decode cX5_agreesWithSeen 34 = .ok (.iload 4, 2) := by decide +kernel
theorem dX5_agreesWithSeen_36 : decode cX5_agreesWithSeen 36 = .ok (.iaload, 1) := by decide +kernel
theorem dX5_agreesWithSeen_37 : decode cX5_agreesWithSeen 37 = .ok (.iload_n 1, 1) := by decide +kernel
theorem dX5_agreesWithSeen_38 : decode cX5_agreesWithSeen 38 = .ok (.if_icmp .ne 81, 3) := by decide +kernel
theorem dX5_agreesWithSeen_41 : decode cX5_agreesWithSeen 41 = .ok (.aload_n 0, 1) := by decide +kernel
theorem dX5_agreesWithSeen_42 : decode cX5_agreesWithSeen 42 = .ok (.iload 5, 2) := by decide +kernel
theorem dX5_agreesWithSeen_44 : decode cX5_agreesWithSeen 44 = .ok (.invokevirtual 109, 3) := by decide +kernel
theorem dX5_agreesWithSeen_47 : decode cX5_agreesWithSeen 47 = .ok (.ifCond .eq 72, 3) := by decide +kernel
theorem dX5_agreesWithSeen_50 : decode cX5_agreesWithSeen 50 = .ok (.aload_n 0, 1) := by decide +kernel
theorem dX5_agreesWithSeen_51 : decode cX5_agreesWithSeen 51 = .ok (.getfield 29, 3) := by decide +kernel
theorem dX5_agreesWithSeen_54 : decode cX5_agreesWithSeen 54 = .ok (.iload 5, 2) := by decide +kernel
theorem dX5_agreesWithSeen_56 : decode cX5_agreesWithSeen 56 = .ok (.invokevirtual 116, 3) := by decide +kernel
theorem dX5_agreesWithSeen_59 : decode cX5_agreesWithSeen 59 = .ok (.iload_n 2, 1) := by decide +kernel
theorem dX5_agreesWithSeen_60 : decode cX5_agreesWithSeen 60 = .ok (.if_icmp .ne 39, 3) := by decide +kernel
theorem dX5_agreesWithSeen_63 : decode cX5_agreesWithSeen 63 = .ok (.aload_n 0, 1) := by decide +kernel
theorem dX5_agreesWithSeen_64 : decode cX5_agreesWithSeen 64 = .ok (.getfield 19, 3) := by decide +kernel
theorem dX5_agreesWithSeen_67 : decode cX5_agreesWithSeen 67 = .ok (.aload_n 0, 1) := by decide +kernel
theorem dX5_agreesWithSeen_68 : decode cX5_agreesWithSeen 68 = .ok (.getfield 19, 3) := by decide +kernel
theorem dX5_agreesWithSeen_71 : decode cX5_agreesWithSeen 71 = .ok (.getfield 113, 3) := by decide +kernel
theorem dX5_agreesWithSeen_74 : decode cX5_agreesWithSeen 74 = .ok (.iload 5, 2) := by decide +kernel
theorem dX5_agreesWithSeen_76 : decode cX5_agreesWithSeen 76 = .ok (.iaload, 1) := by decide +kernel
theorem dX5_agreesWithSeen_77 : decode cX5_agreesWithSeen 77 = .ok (.iload_n 2, 1) := by decide +kernel
theorem dX5_agreesWithSeen_78 : decode cX5_agreesWithSeen 78 = .ok (.iload_n 1, 1) := by decide +kernel
theorem dX5_agreesWithSeen_79 : decode cX5_agreesWithSeen 79 = .ok (.iload_n 3, 1) := by decide +kernel
theorem dX5_agreesWithSeen_80 : decode cX5_agreesWithSeen 80 = .ok (.aload_n 0, 1) := by decide +kernel
theorem dX5_agreesWithSeen_81 : decode cX5_agreesWithSeen 81 = .ok (.getfield 19, 3) := by decide +kernel
theorem dX5_agreesWithSeen_84 : decode cX5_agreesWithSeen 84 = .ok (.getfield 146, 3) := by decide +kernel
theorem dX5_agreesWithSeen_87 : decode cX5_agreesWithSeen 87 = .ok (.iload_n 1, 1) := by decide +kernel
theorem dX5_agreesWithSeen_88 : decode cX5_agreesWithSeen 88 = .ok (.iaload, 1) := by decide +kernel
theorem dX5_agreesWithSeen_89 : decode cX5_agreesWithSeen 89 = .ok (.invokevirtual 223, 3) := by decide +kernel
theorem dX5_agreesWithSeen_92 : decode cX5_agreesWithSeen 92 = .ok (.ifCond .eq 7, 3) := by decide +kernel
theorem dX5_agreesWithSeen_95 : decode cX5_agreesWithSeen 95 = .ok (.iconst 1, 1) := by decide +kernel
theorem dX5_agreesWithSeen_96 : decode cX5_agreesWithSeen 96 = .ok (.goto 4, 3) := by decide +kernel
theorem dX5_agreesWithSeen_99 : decode cX5_agreesWithSeen 99 = .ok (.iconst 0, 1) := by decide +kernel
theorem dX5_agreesWithSeen_100 : decode cX5_agreesWithSeen 100 = .ok (.istore 6, 2) := by decide +kernel
theorem dX5_agreesWithSeen_102 : decode cX5_agreesWithSeen 102 = .ok (.iload 6, 2) := by decide +kernel
theorem dX5_agreesWithSeen_104 : decode cX5_agreesWithSeen 104 = .ok (.aload_n 0, 1) := by decide +kernel
theorem dX5_agreesWithSeen_105 : decode cX5_agreesWithSeen 105 = .ok (.getfield 46, 3) := by decide +kernel
theorem dX5_agreesWithSeen_108 : decode cX5_agreesWithSeen 108 = .ok (.getfield 266, 3) := by decide +kernel
theorem dX5_agreesWithSeen_111 : decode cX5_agreesWithSeen 111 = .ok (.iload 4, 2) := by decide +kernel
theorem dX5_agreesWithSeen_113 : decode cX5_agreesWithSeen 113 = .ok (.baload, 1) := by decide +kernel
theorem dX5_agreesWithSeen_114 : decode cX5_agreesWithSeen 114 = .ok (.if_icmp .eq 5, 3) := by decide +kernel
theorem dX5_agreesWithSeen_117 : decode cX5_agreesWithSeen 117 = .ok (.iconst 0, 1) := by decide +kernel
theorem dX5_agreesWithSeen_118 : decode cX5_agreesWithSeen 118 = .ok (.ireturn, 1) := by decide +kernel
theorem dX5_agreesWithSeen_119 : decode cX5_agreesWithSeen 119 = .ok (.iinc 4 1, 3) := by decide +kernel
theorem dX5_agreesWithSeen_122 : decode cX5_agreesWithSeen 122 = .ok (.goto (-119), 3) := by decide +kernel
theorem dX5_agreesWithSeen_125 : decode cX5_agreesWithSeen 125 = .ok (.iconst 1, 1) := by decide +kernel
theorem dX5_agreesWithSeen_126 : decode cX5_agreesWithSeen 126 = .ok (.ireturn, 1) := by decide +kernel
theorem dX5_drawOf_0 : decode cX5_drawOf 0 = .ok (.ldc2_w 270, 3) := by decide +kernel
theorem dX5_drawOf_3 : decode cX5_drawOf 3 = .ok (.iload_n 0, 1) := by decide +kernel
theorem dX5_drawOf_4 : decode cX5_drawOf 4 = .ok (.i2l, 1) := by decide +kernel
theorem dX5_drawOf_5 : decode cX5_drawOf 5 = .ok (.lmul, 1) := by decide +kernel
theorem dX5_drawOf_6 : decode cX5_drawOf 6 = .ok (.ldc2_w 272, 3) := by decide +kernel
theorem dX5_drawOf_9 : decode cX5_drawOf 9 = .ok (.iload_n 1, 1) := by decide +kernel
theorem dX5_drawOf_10 : decode cX5_drawOf 10 = .ok (.i2l, 1) := by decide +kernel
theorem dX5_drawOf_11 : decode cX5_drawOf 11 = .ok (.lmul, 1) := by decide +kernel
theorem dX5_drawOf_12 : decode cX5_drawOf 12 = .ok (.ladd, 1) := by decide +kernel
theorem dX5_drawOf_13 : decode cX5_drawOf 13 = .ok (.lconst 1, 1) := by decide +kernel
theorem dX5_drawOf_14 : decode cX5_drawOf 14 = .ok (.ladd, 1) := by decide +kernel
theorem dX5_drawOf_15 : decode cX5_drawOf 15 = .ok (.lstore_n 2, 1) := by decide +kernel
theorem dX5_drawOf_16 : decode cX5_drawOf 16 = .ok (.lload_n 2, 1) := by decide +kernel
theorem dX5_drawOf_17 : decode cX5_drawOf 17 = .ok (.lload_n 2, 1) := by decide +kernel
theorem dX5_drawOf_18 : decode cX5_drawOf 18 = .ok (.lmul, 1) := by decide +kernel
theorem dX5_drawOf_19 : decode cX5_drawOf 19 = .ok (.ldc2_w 274, 3) := by decide +kernel
theorem dX5_drawOf_22 : decode cX5_drawOf 22 = .ok (.lrem, 1) := by decide +kernel
theorem dX5_drawOf_23 : decode cX5_drawOf 23 = .ok (.ldc2_w 276, 3) := by decide +kernel
theorem dX5_drawOf_26 : decode cX5_drawOf 26 = .ok (.ldiv, 1) := by decide +kernel
theorem dX5_drawOf_27 : decode cX5_drawOf 27 = .ok (.l2i, 1) := by decide +kernel
theorem dX5_drawOf_28 : decode cX5_drawOf 28 = .ok (.ireturn, 1) := by decide +kernel
set_option maxRecDepth 20000 in
theorem ggX5_dealOnce_X5_isLoose : GoodIn wsX5_dealOnce wsX5_isLoose := goodIn_r _ [9, 1, 10, 11, 12, 13, 14, 15, 16, 17, 18, 19, 20, 21, 22, 23, 72, 73, 74, 75, 76, 77, 78, 79, 80, 81, 82, 83, 84, 85, 86, 87, 88, 89, 90, 91, 92, 93, 94, 95, 96, 97, 98] (by decide +kernel) (by decide +kernel)
set_option maxRecDepth 20000 in
theorem gX5_dealOnce_X5_isLoose : GoodIn wsX5_dealOnce (wsV RX5 130 RX5 yX5_isLoose wsX5_isLoose) := goodIn_app (goodIn_of _ (by decide +kernel)) ggX5_dealOnce_X5_isLoose
set_option maxRecDepth 20000 in
theorem ggX5_dealOnce_X4_roomOf : GoodIn wsX5_dealOnce wsX4_roomOf := goodIn_r _ [27, 28, 94, 95, 96, 97, 98] (by decide +kernel) (by decide +kernel)
set_option maxRecDepth 20000 in
theorem gX5_dealOnce_X4_roomOf : GoodIn wsX5_dealOnce (wsV RX5 116 RX4 yX4_roomOf wsX4_roomOf) := goodIn_app (goodIn_of _ (by decide +kernel)) ggX5_dealOnce_X4_roomOf
set_option maxRecDepth 20000 in
theorem ggX5_dealOnce_X0_toldBy : GoodIn wsX5_dealOnce wsX0_toldBy := goodIn_r _ [32, 33, 34, 35, 36, 37, 38, 39, 40, 21, 41, 42, 43, 44, 45, 82, 83, 84, 85, 86, 87, 88, 89, 90, 91, 92, 93] (by decide +kernel) (by decide +kernel)
set_option maxRecDepth 20000 in
theorem gX5_dealOnce_X0_toldBy : GoodIn wsX5_dealOnce (wsV RX5 126 RX0 yX0_toldBy wsX0_toldBy) := goodIn_app (goodIn_of _ (by decide +kernel)) ggX5_dealOnce_X0_toldBy
set_option maxRecDepth 20000 in
theorem ggX5_dealOnce_X4_letSpeak : GoodIn wsX5_dealOnce wsX4_letSpeak := goodIn_r _ [49, 50, 16, 51, 52, 53, 54, 55, 56, 57, 94, 95, 96, 97, 98] (by decide +kernel) (by decide +kernel)
set_option maxRecDepth 20000 in
theorem gX5_dealOnce_X4_letSpeak : GoodIn wsX5_dealOnce (wsV RX5 163 RX4 yX4_letSpeak wsX4_letSpeak) := goodIn_app (goodIn_of _ (by decide +kernel)) ggX5_dealOnce_X4_letSpeak
set_option maxRecDepth 20000 in
theorem ggX5_dealOnce_X5_canBeBought : GoodIn wsX5_dealOnce wsX5_canBeBought := goodIn_r _ [61, 1, 4, 62, 11, 12, 13, 14, 15, 16, 17, 72, 73, 74, 75, 76, 77, 78, 79, 80, 81, 82, 83, 84, 85, 86, 87, 88, 89, 90, 91, 92, 93, 94, 95, 96, 97, 98] (by decide +kernel) (by decide +kernel)
set_option maxRecDepth 20000 in
theorem gX5_dealOnce_X5_canBeBought : GoodIn wsX5_dealOnce (wsV RX5 166 RX5 yX5_canBeBought wsX5_canBeBought) := goodIn_app (goodIn_of _ (by decide +kernel)) ggX5_dealOnce_X5_canBeBought
set_option maxRecDepth 20000 in
theorem ggX5_dealOnce_X4_sell : GoodIn wsX5_dealOnce wsX4_sell := goodIn_r _ [66, 17, 67, 94, 95, 96, 97, 98] (by decide +kernel) (by decide +kernel)
set_option maxRecDepth 20000 in
theorem gX5_dealOnce_X4_sell : GoodIn wsX5_dealOnce (wsV RX5 169 RX4 yX4_sell wsX4_sell) := goodIn_app (goodIn_of _ (by decide +kernel)) ggX5_dealOnce_X4_sell
set_option maxRecDepth 20000 in
theorem ggX5_dealOnce_X4_howIs : GoodIn wsX5_dealOnce wsX4_howIs := goodIn_r _ [15, 16, 17, 94, 95, 96, 97, 98] (by decide +kernel) (by decide +kernel)
set_option maxRecDepth 20000 in
theorem gX5_dealOnce_X4_howIs : GoodIn wsX5_dealOnce (wsV RX5 123 RX4 yX4_howIs wsX4_howIs) := goodIn_app (goodIn_of _ (by decide +kernel)) ggX5_dealOnce_X4_howIs
set_option maxRecDepth 20000 in
theorem ggX5_dealOnce_X4_move : GoodIn wsX5_dealOnce wsX4_move := goodIn_r _ [71, 28, 94, 95, 96, 97, 98] (by decide +kernel) (by decide +kernel)
set_option maxRecDepth 20000 in
theorem gX5_dealOnce_X4_move : GoodIn wsX5_dealOnce (wsV RX5 173 RX4 yX4_move wsX4_move) := goodIn_app (goodIn_of _ (by decide +kernel)) ggX5_dealOnce_X4_move
theorem dX5_dealOnce_0 : decode cX5_dealOnce 0 = .ok (.aload_n 0, 1) := by decide +kernel
theorem dX5_dealOnce_1 : decode cX5_dealOnce 1 = .ok (.getfield 19, 3) := by decide +kernel
theorem dX5_dealOnce_4 : decode cX5_dealOnce 4 = .ok (.getfield 91, 3) := by decide +kernel
theorem dX5_dealOnce_7 : decode cX5_dealOnce 7 = .ok (.iconst 1, 1) := by decide +kernel
theorem dX5_dealOnce_8 : decode cX5_dealOnce 8 = .ok (.if_icmp .ge 4, 3) := by decide +kernel
theorem dX5_dealOnce_11 : decode cX5_dealOnce 11 = .ok (.return_, 1) := by decide +kernel
theorem dX5_dealOnce_12 : decode cX5_dealOnce 12 = .ok (.iload_n 1, 1) := by decide +kernel
theorem dX5_dealOnce_13 : decode cX5_dealOnce 13 = .ok (.aload_n 0, 1) := by decide +kernel
theorem dX5_dealOnce_14 : decode cX5_dealOnce 14 = .ok (.getfield 19, 3) := by decide +kernel
theorem dX5_dealOnce_17 : decode cX5_dealOnce 17 = .ok (.getfield 91, 3) := by decide +kernel
theorem dX5_dealOnce_20 : decode cX5_dealOnce 20 = .ok (.irem, 1) := by decide +kernel
theorem dX5_dealOnce_21 : decode cX5_dealOnce 21 = .ok (.istore_n 2, 1) := by decide +kernel
theorem dX5_dealOnce_22 : decode cX5_dealOnce 22 = .ok (.iload_n 1, 1) := by decide +kernel
theorem dX5_dealOnce_23 : decode cX5_dealOnce 23 = .ok (.bipush 8, 2) := by decide +kernel
theorem dX5_dealOnce_25 : decode cX5_dealOnce 25 = .ok (.idiv, 1) := by decide +kernel
theorem dX5_dealOnce_26 : decode cX5_dealOnce 26 = .ok (.iconst 3, 1) := by decide +kernel
theorem dX5_dealOnce_27 : decode cX5_dealOnce 27 = .ok (.irem, 1) := by decide +kernel
theorem dX5_dealOnce_28 : decode cX5_dealOnce 28 = .ok (.istore_n 3, 1) := by decide +kernel
theorem dX5_dealOnce_29 : decode cX5_dealOnce 29 = .ok (.iload_n 3, 1) := by decide +kernel
theorem dX5_dealOnce_30 : decode cX5_dealOnce 30 = .ok (.ifCond .ne 40, 3) := by decide +kernel
theorem dX5_dealOnce_33 : decode cX5_dealOnce 33 = .ok (.aload_n 0, 1) := by decide +kernel
theorem dX5_dealOnce_34 : decode cX5_dealOnce 34 = .ok (.aload_n 0, 1) := by decide +kernel
theorem dX5_dealOnce_35 : decode cX5_dealOnce 35 = .ok (.getfield 33, 3) := by decide +kernel
theorem dX5_dealOnce_38 : decode cX5_dealOnce 38 = .ok (.iload_n 2, 1) := by decide +kernel
theorem dX5_dealOnce_39 : decode cX5_dealOnce 39 = .ok (.invokevirtual 130, 3) := by decide +kernel
theorem dX5_dealOnce_42 : decode cX5_dealOnce 42 = .ok (.ifCond .eq 28, 3) := by decide +kernel
theorem dX5_dealOnce_45 : decode cX5_dealOnce 45 = .ok (.aload_n 0, 1) := by decide +kernel
theorem dX5_dealOnce_46 : decode cX5_dealOnce 46 = .ok (.getfield 33, 3) := by decide +kernel
theorem dX5_dealOnce_49 : decode cX5_dealOnce 49 = .ok (.iload_n 2, 1) := by decide +kernel
theorem dX5_dealOnce_50 : decode cX5_dealOnce 50 = .ok (.aload_n 0, 1) := by decide +kernel
theorem dX5_dealOnce_51 : decode cX5_dealOnce 51 = .ok (.getfield 19, 3) := by decide +kernel
theorem dX5_dealOnce_54 : decode cX5_dealOnce 54 = .ok (.iload_n 2, 1) := by decide +kernel
theorem dX5_dealOnce_55 : decode cX5_dealOnce 55 = .ok (.aload_n 0, 1) := by decide +kernel
theorem dX5_dealOnce_56 : decode cX5_dealOnce 56 = .ok (.getfield 33, 3) := by decide +kernel
theorem dX5_dealOnce_59 : decode cX5_dealOnce 59 = .ok (.iload_n 2, 1) := by decide +kernel
theorem dX5_dealOnce_60 : decode cX5_dealOnce 60 = .ok (.invokevirtual 116, 3) := by decide +kernel
theorem dX5_dealOnce_63 : decode cX5_dealOnce 63 = .ok (.invokevirtual 126, 3) := by decide +kernel
theorem dX5_dealOnce_66 : decode cX5_dealOnce 66 = .ok (.invokevirtual 163, 3) := by decide +kernel
theorem dX5_dealOnce_69 : decode cX5_dealOnce 69 = .ok (.pop, 1) := by decide +kernel
theorem dX5_dealOnce_70 : decode cX5_dealOnce 70 = .ok (.iload_n 3, 1) := by decide +kernel
theorem dX5_dealOnce_71 : decode cX5_dealOnce 71 = .ok (.iconst 1, 1) := by decide +kernel
theorem dX5_dealOnce_72 : decode cX5_dealOnce 72 = .ok (.if_icmp .ne 32, 3) := by decide +kernel
theorem dX5_dealOnce_75 : decode cX5_dealOnce 75 = .ok (.aload_n 0, 1) := by decide +kernel
theorem dX5_dealOnce_76 : decode cX5_dealOnce 76 = .ok (.aload_n 0, 1) := by decide +kernel
theorem dX5_dealOnce_77 : decode cX5_dealOnce 77 = .ok (.getfield 33, 3) := by decide +kernel
theorem dX5_dealOnce_80 : decode cX5_dealOnce 80 = .ok (.iload_n 2, 1) := by decide +kernel
theorem dX5_dealOnce_81 : decode cX5_dealOnce 81 = .ok (.invokevirtual 166, 3) := by decide +kernel
theorem dX5_dealOnce_84 : decode cX5_dealOnce 84 = .ok (.ifCond .eq 20, 3) := by decide +kernel
theorem dX5_dealOnce_87 : decode cX5_dealOnce 87 = .ok (.aload_n 0, 1) := by decide +kernel
theorem dX5_dealOnce_88 : decode cX5_dealOnce 88 = .ok (.getfield 33, 3) := by decide +kernel
theorem dX5_dealOnce_91 : decode cX5_dealOnce 91 = .ok (.iload_n 2, 1) := by decide +kernel
theorem dX5_dealOnce_92 : decode cX5_dealOnce 92 = .ok (.aload_n 0, 1) := by decide +kernel
theorem dX5_dealOnce_93 : decode cX5_dealOnce 93 = .ok (.getfield 19, 3) := by decide +kernel
theorem dX5_dealOnce_96 : decode cX5_dealOnce 96 = .ok (.getfield 120, 3) := by decide +kernel
theorem dX5_dealOnce_99 : decode cX5_dealOnce 99 = .ok (.iload_n 2, 1) := by decide +kernel
theorem dX5_dealOnce_100 : decode cX5_dealOnce 100 = .ok (.iaload, 1) := by decide +kernel
theorem dX5_dealOnce_101 : decode cX5_dealOnce 101 = .ok (.invokevirtual 169, 3) := by decide +kernel
theorem dX5_dealOnce_104 : decode cX5_dealOnce 104 = .ok (.iload_n 3, 1) := by decide +kernel
theorem dX5_dealOnce_105 : decode cX5_dealOnce 105 = .ok (.iconst 2, 1) := by decide +kernel
theorem dX5_dealOnce_106 : decode cX5_dealOnce 106 = .ok (.if_icmp .ne 29, 3) := by decide +kernel
theorem dX5_dealOnce_109 : decode cX5_dealOnce 109 = .ok (.aload_n 0, 1) := by decide +kernel
theorem dX5_dealOnce_110 : decode cX5_dealOnce 110 = .ok (.getfield 33, 3) := by decide +kernel
theorem dX5_dealOnce_113 : decode cX5_dealOnce 113 = .ok (.iload_n 2, 1) := by decide +kernel
theorem dX5_dealOnce_114 : decode cX5_dealOnce 114 = .ok (.invokevirtual 123, 3) := by decide +kernel
theorem dX5_dealOnce_117 : decode cX5_dealOnce 117 = .ok (.iconst 2, 1) := by decide +kernel
theorem dX5_dealOnce_118 : decode cX5_dealOnce 118 = .ok (.if_icmp .eq 17, 3) := by decide +kernel
theorem dX5_dealOnce_121 : decode cX5_dealOnce 121 = .ok (.aload_n 0, 1) := by decide +kernel
theorem dX5_dealOnce_122 : decode cX5_dealOnce 122 = .ok (.getfield 33, 3) := by decide +kernel
theorem dX5_dealOnce_125 : decode cX5_dealOnce 125 = .ok (.iload_n 2, 1) := by decide +kernel
theorem dX5_dealOnce_126 : decode cX5_dealOnce 126 = .ok (.iload_n 1, 1) := by decide +kernel
theorem dX5_dealOnce_127 : decode cX5_dealOnce 127 = .ok (.bipush 32, 2) := by decide +kernel
theorem dX5_dealOnce_129 : decode cX5_dealOnce 129 = .ok (.idiv, 1) := by decide +kernel
theorem dX5_dealOnce_130 : decode cX5_dealOnce 130 = .ok (.iconst 4, 1) := by decide +kernel
theorem dX5_dealOnce_131 : decode cX5_dealOnce 131 = .ok (.irem, 1) := by decide +kernel
theorem dX5_dealOnce_132 : decode cX5_dealOnce 132 = .ok (.invokevirtual 173, 3) := by decide +kernel
theorem dX5_dealOnce_135 : decode cX5_dealOnce 135 = .ok (.return_, 1) := by decide +kernel
set_option maxRecDepth 20000 in
theorem ggX6_init_X6_clearTold : GoodIn wsX6_init wsX6_clearTold := goodIn_r _ [23, 24, 25, 17, 18, 47, 48, 49, 50, 51, 52, 53, 54, 55, 56, 57, 58, 59, 60, 61, 62, 63, 64, 65, 66, 67, 68, 69, 70] (by decide +kernel) (by decide +kernel)
set_option maxRecDepth 20000 in
theorem gX6_init_X6_clearTold : GoodIn wsX6_init (wsV RX6 46 RX6 yX6_clearTold wsX6_clearTold) := goodIn_app (goodIn_of _ (by decide +kernel)) ggX6_init_X6_clearTold
set_option maxRecDepth 20000 in
theorem ggX6_init_X6_tellsPiece : GoodIn wsX6_init wsX6_tellsPiece := goodIn_r _ [29, 13, 24, 14, 47, 48, 49, 50, 51, 52, 53, 54, 55, 56, 57, 58, 59, 60, 61, 62, 63, 64, 65, 66, 67, 68, 69, 70] (by decide +kernel) (by decide +kernel)
set_option maxRecDepth 20000 in
theorem gX6_init_X6_tellsPiece : GoodIn wsX6_init (wsV RX6 49 RX6 yX6_tellsPiece wsX6_tellsPiece) := goodIn_app (goodIn_of _ (by decide +kernel)) ggX6_init_X6_tellsPiece
set_option maxRecDepth 20000 in
theorem ggX6_init_X6_tellsDeed : GoodIn wsX6_init wsX6_tellsDeed := goodIn_r _ [33, 15, 25, 47, 48, 49, 50, 51, 52, 53, 54, 55, 56, 57, 58, 59, 60, 61, 62, 63, 64, 65, 66, 67, 68, 69, 70] (by decide +kernel) (by decide +kernel)
set_option maxRecDepth 20000 in
theorem gX6_init_X6_tellsDeed : GoodIn wsX6_init (wsV RX6 53 RX6 yX6_tellsDeed wsX6_tellsDeed) := goodIn_app (goodIn_of _ (by decide +kernel)) ggX6_init_X6_tellsDeed
set_option maxRecDepth 20000 in
theorem ggX6_init_X6_settles : GoodIn wsX6_init wsX6_settles := goodIn_r _ [37, 24, 38, 5, 13, 25, 39, 6, 15, 18, 40, 7, 17, 14, 41, 42, 43, 44, 45, 22, 46, 47, 48, 49, 50, 51, 52, 53, 54, 55, 56, 57, 58, 59, 60, 61, 62, 63, 64, 65, 66, 67, 68, 69, 70] (by decide +kernel) (by decide +kernel)
set_option maxRecDepth 20000 in
theorem gX6_init_X6_settles : GoodIn wsX6_init (wsV RX6 64 RX6 yX6_settles wsX6_settles) := goodIn_app (goodIn_of _ (by decide +kernel)) ggX6_init_X6_settles
theorem dX6_init_0 : decode cX6_init 0 = .ok (.aload_n 0, 1) := by decide +kernel
theorem dX6_init_1 : decode cX6_init 1 = .ok (.invokespecial 1, 3) := by decide +kernel
theorem dX6_init_4 : decode cX6_init 4 = .ok (.aload_n 0, 1) := by decide +kernel
theorem dX6_init_5 : decode cX6_init 5 = .ok (.bipush 16, 2) := by decide +kernel
theorem dX6_init_7 : decode cX6_init 7 = .ok (.newarray .int, 2) := by decide +kernel
theorem dX6_init_9 : decode cX6_init 9 = .ok (.putfield 7, 3) := by decide +kernel
theorem dX6_init_12 : decode cX6_init 12 = .ok (.aload_n 0, 1) := by decide +kernel
theorem dX6_init_13 : decode cX6_init 13 = .ok (.bipush 40, 2) := by decide +kernel
theorem dX6_init_15 : decode cX6_init 15 = .ok (.newarray .int, 2) := by decide +kernel
theorem dX6_init_17 : decode cX6_init 17 = .ok (.putfield 13, 3) := by decide +kernel
theorem dX6_init_20 : decode cX6_init 20 = .ok (.aload_n 0, 1) := by decide +kernel
theorem dX6_init_21 : decode cX6_init 21 = .ok (.bipush 18, 2) := by decide +kernel
theorem dX6_init_23 : decode cX6_init 23 = .ok (.newarray .int, 2) := by decide +kernel
theorem dX6_init_25 : decode cX6_init 25 = .ok (.putfield 16, 3) := by decide +kernel
theorem dX6_init_28 : decode cX6_init 28 = .ok (.aload_n 0, 1) := by decide +kernel
theorem dX6_init_29 : decode cX6_init 29 = .ok (.sipush 144, 3) := by decide +kernel
theorem dX6_init_32 : decode cX6_init 32 = .ok (.newarray .int, 2) := by decide +kernel
theorem dX6_init_34 : decode cX6_init 34 = .ok (.putfield 19, 3) := by decide +kernel
theorem dX6_init_37 : decode cX6_init 37 = .ok (.aload_n 0, 1) := by decide +kernel
theorem dX6_init_38 : decode cX6_init 38 = .ok (.bipush 36, 2) := by decide +kernel
theorem dX6_init_40 : decode cX6_init 40 = .ok (.newarray .int, 2) := by decide +kernel
theorem dX6_init_42 : decode cX6_init 42 = .ok (.putfield 22, 3) := by decide +kernel
theorem dX6_init_45 : decode cX6_init 45 = .ok (.aload_n 0, 1) := by decide +kernel
theorem dX6_init_46 : decode cX6_init 46 = .ok (.bipush 18, 2) := by decide +kernel
theorem dX6_init_48 : decode cX6_init 48 = .ok (.newarray .int, 2) := by decide +kernel
theorem dX6_init_50 : decode cX6_init 50 = .ok (.putfield 25, 3) := by decide +kernel
theorem dX6_init_53 : decode cX6_init 53 = .ok (.aload_n 0, 1) := by decide +kernel
theorem dX6_init_54 : decode cX6_init 54 = .ok (.sipush 200, 3) := by decide +kernel
theorem dX6_init_57 : decode cX6_init 57 = .ok (.newarray .int, 2) := by decide +kernel
theorem dX6_init_59 : decode cX6_init 59 = .ok (.putfield 28, 3) := by decide +kernel
theorem dX6_init_62 : decode cX6_init 62 = .ok (.aload_n 0, 1) := by decide +kernel
theorem dX6_init_63 : decode cX6_init 63 = .ok (.iconst 4, 1) := by decide +kernel
theorem dX6_init_64 : decode cX6_init 64 = .ok (.newarray .int, 2) := by decide +kernel
theorem dX6_init_66 : decode cX6_init 66 = .ok (.putfield 31, 3) := by decide +kernel
theorem dX6_init_69 : decode cX6_init 69 = .ok (.aload_n 0, 1) := by decide +kernel
theorem dX6_init_70 : decode cX6_init 70 = .ok (.bipush 16, 2) := by decide +kernel
theorem dX6_init_72 : decode cX6_init 72 = .ok (.newarray .int, 2) := by decide +kernel
theorem dX6_init_74 : decode cX6_init 74 = .ok (.putfield 34, 3) := by decide +kernel
theorem dX6_init_77 : decode cX6_init 77 = .ok (.aload_n 0, 1) := by decide +kernel
theorem dX6_init_78 : decode cX6_init 78 = .ok (.bipush 8, 2) := by decide +kernel
theorem dX6_init_80 : decode cX6_init 80 = .ok (.newarray .int, 2) := by decide +kernel
theorem dX6_init_82 : decode cX6_init 82 = .ok (.putfield 37, 3) := by decide +kernel
theorem dX6_init_85 : decode cX6_init 85 = .ok (.aload_n 0, 1) := by decide +kernel
theorem dX6_init_86 : decode cX6_init 86 = .ok (.bipush 40, 2) := by decide +kernel
theorem dX6_init_88 : decode cX6_init 88 = .ok (.newarray .int, 2) := by decide +kernel
theorem dX6_init_90 : decode cX6_init 90 = .ok (.putfield 40, 3) := by decide +kernel
theorem dX6_init_93 : decode cX6_init 93 = .ok (.aload_n 0, 1) := by decide +kernel
theorem dX6_init_94 : decode cX6_init 94 = .ok (.bipush 18, 2) := by decide +kernel
theorem dX6_init_96 : decode cX6_init 96 = .ok (.newarray .int, 2) := by decide +kernel
theorem dX6_init_98 : decode cX6_init 98 = .ok (.putfield 43, 3) := by decide +kernel
theorem dX6_init_101 : decode cX6_init 101 = .ok (.aload_n 0, 1) := by decide +kernel
theorem dX6_init_102 : decode cX6_init 102 = .ok (.invokevirtual 46, 3) := by decide +kernel
theorem dX6_init_105 : decode cX6_init 105 = .ok (.aload_n 0, 1) := by decide +kernel
theorem dX6_init_106 : decode cX6_init 106 = .ok (.iconst 0, 1) := by decide +kernel
theorem dX6_init_107 : decode cX6_init 107 = .ok (.iconst 0, 1) := by decide +kernel
theorem dX6_init_108 : decode cX6_init 108 = .ok (.bipush 20, 2) := by decide +kernel
theorem dX6_init_110 : decode cX6_init 110 = .ok (.invokevirtual 49, 3) := by decide +kernel
theorem dX6_init_113 : decode cX6_init 113 = .ok (.aload_n 0, 1) := by decide +kernel
theorem dX6_init_114 : decode cX6_init 114 = .ok (.iconst 1, 1) := by decide +kernel
theorem dX6_init_115 : decode cX6_init 115 = .ok (.iconst 0, 1) := by decide +kernel
theorem dX6_init_116 : decode cX6_init 116 = .ok (.bipush 9, 2) := by decide +kernel
theorem dX6_init_118 : decode cX6_init 118 = .ok (.invokevirtual 49, 3) := by decide +kernel
theorem dX6_init_121 : decode cX6_init 121 = .ok (.aload_n 0, 1) := by decide +kernel
theorem dX6_init_122 : decode cX6_init 122 = .ok (.iconst 2, 1) := by decide +kernel
theorem dX6_init_123 : decode cX6_init 123 = .ok (.iconst 1, 1) := by decide +kernel
theorem dX6_init_124 : decode cX6_init 124 = .ok (.bipush 12, 2) := by decide +kernel
theorem dX6_init_126 : decode cX6_init 126 = .ok (.invokevirtual 49, 3) := by decide +kernel
theorem dX6_init_129 : decode cX6_init 129 = .ok (.aload_n 0, 1) := by decide +kernel
theorem dX6_init_130 : decode cX6_init 130 = .ok (.iconst 2, 1) := by decide +kernel
theorem dX6_init_131 : decode cX6_init 131 = .ok (.iconst 0, 1) := by decide +kernel
theorem dX6_init_132 : decode cX6_init 132 = .ok (.bipush 7, 2) := by decide +kernel
theorem dX6_init_134 : decode cX6_init 134 = .ok (.invokevirtual 49, 3) := by decide +kernel
theorem dX6_init_137 : decode cX6_init 137 = .ok (.aload_n 0, 1) := by decide +kernel
theorem dX6_init_138 : decode cX6_init 138 = .ok (.iconst 3, 1) := by decide +kernel
theorem dX6_init_139 : decode cX6_init 139 = .ok (.iconst 1, 1) := by decide +kernel
theorem dX6_init_140 : decode cX6_init 140 = .ok (.iconst 3, 1) := by decide +kernel
theorem dX6_init_141 : decode cX6_init 141 = .ok (.invokevirtual 49, 3) := by decide +kernel
theorem dX6_init_144 : decode cX6_init 144 = .ok (.aload_n 0, 1) := by decide +kernel
theorem dX6_init_145 : decode cX6_init 145 = .ok (.iconst 0, 1) := by decide +kernel
theorem dX6_init_146 : decode cX6_init 146 = .ok (.iconst 2, 1) := by decide +kernel
theorem dX6_init_147 : decode cX6_init 147 = .ok (.bipush 30, 2) := by decide +kernel
theorem dX6_init_149 : decode cX6_init 149 = .ok (.invokevirtual 49, 3) := by decide +kernel
theorem dX6_init_152 : decode cX6_init 152 = .ok (.aload_n 0, 1) := by decide +kernel
theorem dX6_init_153 : decode cX6_init 153 = .ok (.iconst 1, 1) := by decide +kernel
theorem dX6_init_154 : decode cX6_init 154 = .ok (.iconst 2, 1) := by decide +kernel
theorem dX6_init_155 : decode cX6_init 155 = .ok (.iconst 5, 1) := by decide +kernel
theorem dX6_init_156 : decode cX6_init 156 = .ok (.invokevirtual 49, 3) := by decide +kernel
theorem dX6_init_159 : decode cX6_init 159 = .ok (.aload_n 0, 1) := by decide +kernel
theorem dX6_init_160 : decode cX6_init 160 = .ok (.iconst 0, 1) := by decide +kernel
theorem dX6_init_161 : decode cX6_init 161 = .ok (.iconst 0, 1) := by decide +kernel
theorem dX6_init_162 : decode cX6_init 162 = .ok (.bipush 9, 2) := by decide +kernel
theorem dX6_init_164 : decode cX6_init 164 = .ok (.iconst 4, 1) := by decide +kernel
theorem dX6_init_165 : decode cX6_init 165 = .ok (.invokevirtual 53, 3) := by decide +kernel
theorem dX6_init_168 : decode cX6_init 168 = .ok (.aload_n 0, 1) := by decide +kernel
theorem dX6_init_169 : decode cX6_init 169 = .ok (.iconst 1, 1) := by decide +kernel
theorem dX6_init_170 : decode cX6_init 170 = .ok (.iconst 0, 1) := by decide +kernel
theorem dX6_init_171 : decode cX6_init 171 = .ok (.bipush 22, 2) := by decide +kernel
theorem dX6_init_173 : decode cX6_init 173 = .ok (.bipush 15, 2) := by decide +kernel
theorem dX6_init_175 : decode cX6_init 175 = .ok (.invokevirtual 53, 3) := by decide +kernel
theorem dX6_init_178 : decode cX6_init 178 = .ok (.aload_n 0, 1) := by decide +kernel
theorem dX6_init_179 : decode cX6_init 179 = .ok (.iconst 0, 1) := by decide +kernel
theorem dX6_init_180 : decode cX6_init 180 = .ok (.iconst 1, 1) := by decide +kernel
theorem dX6_init_181 : decode cX6_init 181 = .ok (.iconst 3, 1) := by decide +kernel
theorem dX6_init_182 : decode cX6_init 182 = .ok (.bipush 8, 2) := by decide +kernel
theorem dX6_init_184 : decode cX6_init 184 = .ok (.invokevirtual 53, 3) := by decide +kernel
theorem dX6_init_187 : decode cX6_init 187 = .ok (.aload_n 0, 1) := by decide +kernel
theorem dX6_init_188 : decode cX6_init 188 = .ok (.iconst 2, 1) := by decide +kernel
theorem dX6_init_189 : decode cX6_init 189 = .ok (.iconst 1, 1) := by decide +kernel
theorem dX6_init_190 : decode cX6_init 190 = .ok (.bipush 14, 2) := by decide +kernel
theorem dX6_init_192 : decode cX6_init 192 = .ok (.bipush 20, 2) := by decide +kernel
theorem dX6_init_194 : decode cX6_init 194 = .ok (.invokevirtual 53, 3) := by decide +kernel
theorem dX6_init_197 : decode cX6_init 197 = .ok (.aload_n 0, 1) := by decide +kernel
theorem dX6_init_198 : decode cX6_init 198 = .ok (.iconst 1, 1) := by decide +kernel
theorem dX6_init_199 : decode cX6_init 199 = .ok (.iconst 0, 1) := by decide +kernel
theorem dX6_init_200 : decode cX6_init 200 = .ok (.bipush 13, 2) := by decide +kernel
theorem dX6_init_202 : decode cX6_init 202 = .ok (.bipush 6, 2) := by decide +kernel
theorem dX6_init_204 : decode cX6_init 204 = .ok (.invokevirtual 53, 3) := by decide +kernel
theorem dX6_init_207 : decode cX6_init 207 = .ok (.aload_n 0, 1) := by decide +kernel
theorem dX6_init_208 : decode cX6_init 208 = .ok (.iconst 3, 1) := by decide +kernel
theorem dX6_init_209 : decode cX6_init 209 = .ok (.iconst 2, 1) := by decide +kernel
theorem dX6_init_210 : decode cX6_init 210 = .ok (.bipush 7, 2) := by decide +kernel
theorem dX6_init_212 : decode cX6_init 212 = .ok (.bipush 11, 2) := by decide +kernel
theorem dX6_init_214 : decode cX6_init 214 = .ok (.invokevirtual 53, 3) := by decide +kernel
theorem dX6_init_217 : decode cX6_init 217 = .ok (.aload_n 0, 1) := by decide +kernel
theorem dX6_init_218 : decode cX6_init 218 = .ok (.bipush 40, 2) := by decide +kernel
theorem dX6_init_220 : decode cX6_init 220 = .ok (.putfield 57, 3) := by decide +kernel
theorem dX6_init_223 : decode cX6_init 223 = .ok (.aload_n 0, 1) := by decide +kernel
theorem dX6_init_224 : decode cX6_init 224 = .ok (.iconst 1, 1) := by decide +kernel
theorem dX6_init_225 : decode cX6_init 225 = .ok (.putfield 61, 3) := by decide +kernel
theorem dX6_init_228 : decode cX6_init 228 = .ok (.aload_n 0, 1) := by decide +kernel
theorem dX6_init_229 : decode cX6_init 229 = .ok (.invokevirtual 64, 3) := by decide +kernel
theorem dX6_init_232 : decode cX6_init 232 = .ok (.return_, 1) := by decide +kernel
theorem dX6_tellsPiece_0 : decode cX6_tellsPiece 0 = .ok (.aload_n 0, 1) := by decide +kernel
theorem dX6_tellsPiece_1 : decode cX6_tellsPiece 1 = .ok (.getfield 34, 3) := by decide +kernel
theorem dX6_tellsPiece_4 : decode cX6_tellsPiece 4 = .ok (.iconst 2, 1) := by decide +kernel
theorem dX6_tellsPiece_5 : decode cX6_tellsPiece 5 = .ok (.aload_n 0, 1) := by decide +kernel
theorem dX6_tellsPiece_6 : decode cX6_tellsPiece 6 = .ok (.getfield 67, 3) := by decide +kernel
theorem dX6_tellsPiece_9 : decode cX6_tellsPiece 9 = .ok (.imul, 1) := by decide +kernel
theorem dX6_tellsPiece_10 : decode cX6_tellsPiece 10 = .ok (.iload_n 1, 1) := by decide +kernel
theorem dX6_tellsPiece_11 : decode cX6_tellsPiece 11 = .ok (.iastore, 1) := by decide +kernel
theorem dX6_tellsPiece_12 : decode cX6_tellsPiece 12 = .ok (.aload_n 0, 1) := by decide +kernel
theorem dX6_tellsPiece_13 : decode cX6_tellsPiece 13 = .ok (.getfield 34, 3) := by decide +kernel
theorem dX6_tellsPiece_16 : decode cX6_tellsPiece 16 = .ok (.iconst 2, 1) := by decide +kernel
theorem dX6_tellsPiece_17 : decode cX6_tellsPiece 17 = .ok (.aload_n 0, 1) := by decide +kernel
theorem dX6_tellsPiece_18 : decode cX6_tellsPiece 18 = .ok (.getfield 67, 3) := by decide +kernel
theorem dX6_tellsPiece_21 : decode cX6_tellsPiece 21 = .ok (.imul, 1) := by decide +kernel
theorem dX6_tellsPiece_22 : decode cX6_tellsPiece 22 = .ok (.iconst 1, 1) := by decide +kernel
theorem dX6_tellsPiece_23 : decode cX6_tellsPiece 23 = .ok (.iadd, 1) := by decide +kernel
theorem dX6_tellsPiece_24 : decode cX6_tellsPiece 24 = .ok (.iload_n 3, 1) := by decide +kernel
theorem dX6_tellsPiece_25 : decode cX6_tellsPiece 25 = .ok (.iastore, 1) := by decide +kernel
theorem dX6_tellsPiece_26 : decode cX6_tellsPiece 26 = .ok (.aload_n 0, 1) := by decide +kernel
theorem dX6_tellsPiece_27 : decode cX6_tellsPiece 27 = .ok (.getfield 37, 3) := by decide +kernel
theorem dX6_tellsPiece_30 : decode cX6_tellsPiece 30 = .ok (.aload_n 0, 1) := by decide +kernel
theorem dX6_tellsPiece_31 : decode cX6_tellsPiece 31 = .ok (.getfield 67, 3) := by decide +kernel
theorem dX6_tellsPiece_34 : decode cX6_tellsPiece 34 = .ok (.iload_n 2, 1) := by decide +kernel
theorem dX6_tellsPiece_35 : decode cX6_tellsPiece 35 = .ok (.iastore, 1) := by decide +kernel
theorem dX6_tellsPiece_36 : decode cX6_tellsPiece 36 = .ok (.aload_n 0, 1) := by decide +kernel
theorem dX6_tellsPiece_37 : decode cX6_tellsPiece 37 = .ok (.dup, 1) := by decide +kernel
theorem dX6_tellsPiece_38 : decode cX6_tellsPiece 38 = .ok (.getfield 67, 3) := by decide +kernel
theorem dX6_tellsPiece_41 : decode cX6_tellsPiece 41 = .ok (.iconst 1, 1) := by decide +kernel
theorem dX6_tellsPiece_42 : decode cX6_tellsPiece 42 = .ok (.iadd, 1) := by decide +kernel
theorem dX6_tellsPiece_43 : decode cX6_tellsPiece 43 = .ok (.putfield 67, 3) := by decide +kernel
theorem dX6_tellsPiece_46 : decode cX6_tellsPiece 46 = .ok (.return_, 1) := by decide +kernel
theorem dX6_tellsDeed_0 : decode cX6_tellsDeed 0 = .ok (.aload_n 0, 1) := by decide +kernel
theorem dX6_tellsDeed_1 : decode cX6_tellsDeed 1 = .ok (.getfield 40, 3) := by decide +kernel
theorem dX6_tellsDeed_4 : decode cX6_tellsDeed 4 = .ok (.iconst 4, 1) := by decide +kernel
theorem dX6_tellsDeed_5 : decode cX6_tellsDeed 5 = .ok (.aload_n 0, 1) := by decide +kernel
theorem dX6_tellsDeed_6 : decode cX6_tellsDeed 6 = .ok (.getfield 70, 3) := by decide +kernel
theorem dX6_tellsDeed_9 : decode cX6_tellsDeed 9 = .ok (.imul, 1) := by decide +kernel
theorem dX6_tellsDeed_10 : decode cX6_tellsDeed 10 = .ok (.iload_n 1, 1) := by decide +kernel
theorem dX6_tellsDeed_11 : decode cX6_tellsDeed 11 = .ok (.iastore, 1) := by decide +kernel
theorem dX6_tellsDeed_12 : decode cX6_tellsDeed 12 = .ok (.aload_n 0, 1) := by decide +kernel
theorem dX6_tellsDeed_13 : decode cX6_tellsDeed 13 = .ok (.getfield 40, 3) := by decide +kernel
theorem dX6_tellsDeed_16 : decode cX6_tellsDeed 16 = .ok (.iconst 4, 1) := by decide +kernel
theorem dX6_tellsDeed_17 : decode cX6_tellsDeed 17 = .ok (.aload_n 0, 1) := by decide +kernel
theorem dX6_tellsDeed_18 : decode cX6_tellsDeed 18 = .ok (.getfield 70, 3) := by decide +kernel
theorem dX6_tellsDeed_21 : decode cX6_tellsDeed 21 = .ok (.imul, 1) := by decide +kernel
theorem dX6_tellsDeed_22 : decode cX6_tellsDeed 22 = .ok (.iconst 1, 1) := by decide +kernel
theorem dX6_tellsDeed_23 : decode cX6_tellsDeed 23 = .ok (.iadd, 1) := by decide +kernel
theorem dX6_tellsDeed_24 : decode cX6_tellsDeed 24 = .ok (.iload_n 2, 1) := by decide +kernel
theorem dX6_tellsDeed_25 : decode cX6_tellsDeed 25 = .ok (.iastore, 1) := by decide +kernel
theorem dX6_tellsDeed_26 : decode cX6_tellsDeed 26 = .ok (.aload_n 0, 1) := by decide +kernel
theorem dX6_tellsDeed_27 : decode cX6_tellsDeed 27 = .ok (.getfield 40, 3) := by decide +kernel
theorem dX6_tellsDeed_30 : decode cX6_tellsDeed 30 = .ok (.iconst 4, 1) := by decide +kernel
theorem dX6_tellsDeed_31 : decode cX6_tellsDeed 31 = .ok (.aload_n 0, 1) := by decide +kernel
theorem dX6_tellsDeed_32 : decode cX6_tellsDeed 32 = .ok (.getfield 70, 3) := by decide +kernel
theorem dX6_tellsDeed_35 : decode cX6_tellsDeed 35 = .ok (.imul, 1) := by decide +kernel
theorem dX6_tellsDeed_36 : decode cX6_tellsDeed 36 = .ok (.iconst 2, 1) := by decide +kernel
theorem dX6_tellsDeed_37 : decode cX6_tellsDeed 37 = .ok (.iadd, 1) := by decide +kernel
theorem dX6_tellsDeed_38 : decode cX6_tellsDeed 38 = .ok (.iload_n 3, 1) := by decide +kernel
theorem dX6_tellsDeed_39 : decode cX6_tellsDeed 39 = .ok (.iastore, 1) := by decide +kernel
theorem dX6_tellsDeed_40 : decode cX6_tellsDeed 40 = .ok (.aload_n 0, 1) := by decide +kernel
theorem dX6_tellsDeed_41 : decode cX6_tellsDeed 41 = .ok (.getfield 40, 3) := by decide +kernel
theorem dX6_tellsDeed_44 : decode cX6_tellsDeed 44 = .ok (.iconst 4, 1) := by decide +kernel
theorem dX6_tellsDeed_45 : decode cX6_tellsDeed 45 = .ok (.aload_n 0, 1) := by decide +kernel
theorem dX6_tellsDeed_46 : decode cX6_tellsDeed 46 = .ok (.getfield 70, 3) := by decide +kernel
theorem dX6_tellsDeed_49 : decode cX6_tellsDeed 49 = .ok (.imul, 1) := by decide +kernel
theorem dX6_tellsDeed_50 : decode cX6_tellsDeed 50 = .ok (.iconst 3, 1) := by decide +kernel
theorem dX6_tellsDeed_51 : decode cX6_tellsDeed 51 = .ok (.iadd, 1) := by decide +kernel
theorem dX6_tellsDeed_52 : decode cX6_tellsDeed 52 = .ok (.iload 4, 2) := by decide +kernel
theorem dX6_tellsDeed_54 : decode cX6_tellsDeed 54 = .ok (.iastore, 1) := by decide +kernel
theorem dX6_tellsDeed_55 : decode cX6_tellsDeed 55 = .ok (.aload_n 0, 1) := by decide +kernel
theorem dX6_tellsDeed_56 : decode cX6_tellsDeed 56 = .ok (.dup, 1) := by decide +kernel
theorem dX6_tellsDeed_57 : decode cX6_tellsDeed 57 = .ok (.getfield 70, 3) := by decide +kernel
theorem dX6_tellsDeed_60 : decode cX6_tellsDeed 60 = .ok (.iconst 1, 1) := by decide +kernel
theorem dX6_tellsDeed_61 : decode cX6_tellsDeed 61 = .ok (.iadd, 1) := by decide +kernel
theorem dX6_tellsDeed_62 : decode cX6_tellsDeed 62 = .ok (.putfield 70, 3) := by decide +kernel
theorem dX6_tellsDeed_65 : decode cX6_tellsDeed 65 = .ok (.return_, 1) := by decide +kernel
theorem dX6_in_0 : decode cX6_in 0 = .ok (.iload_n 0, 1) := by decide +kernel
theorem dX6_in_1 : decode cX6_in 1 = .ok (.iload_n 1, 1) := by decide +kernel
theorem dX6_in_2 : decode cX6_in 2 = .ok (.if_icmp .lt 12, 3) := by decide +kernel
theorem dX6_in_5 : decode cX6_in 5 = .ok (.iload_n 0, 1) := by decide +kernel
theorem dX6_in_6 : decode cX6_in 6 = .ok (.iload_n 2, 1) := by decide +kernel
theorem dX6_in_7 : decode cX6_in 7 = .ok (.if_icmp .gt 7, 3) := by decide +kernel
theorem dX6_in_10 : decode cX6_in 10 = .ok (.iconst 1, 1) := by decide +kernel
theorem dX6_in_11 : decode cX6_in 11 = .ok (.goto 4, 3) := by decide +kernel
theorem dX6_in_14 : decode cX6_in 14 = .ok (.iconst 0, 1) := by decide +kernel
theorem dX6_in_15 : decode cX6_in 15 = .ok (.ireturn, 1) := by decide +kernel
theorem dX6_has_0 : decode cX6_has 0 = .ok (.iload_n 0, 1) := by decide +kernel
theorem dX6_has_1 : decode cX6_has 1 = .ok (.iload_n 1, 1) := by decide +kernel
theorem dX6_has_2 : decode cX6_has 2 = .ok (.ishr, 1) := by decide +kernel
theorem dX6_has_3 : decode cX6_has 3 = .ok (.iconst 1, 1) := by decide +kernel
theorem dX6_has_4 : decode cX6_has 4 = .ok (.iand, 1) := by decide +kernel
theorem dX6_has_5 : decode cX6_has 5 = .ok (.iconst 1, 1) := by decide +kernel
theorem dX6_has_6 : decode cX6_has 6 = .ok (.if_icmp .ne 7, 3) := by decide +kernel
theorem dX6_has_9 : decode cX6_has 9 = .ok (.iconst 1, 1) := by decide +kernel
theorem dX6_has_10 : decode cX6_has 10 = .ok (.goto 4, 3) := by decide +kernel
theorem dX6_has_13 : decode cX6_has 13 = .ok (.iconst 0, 1) := by decide +kernel
theorem dX6_has_14 : decode cX6_has 14 = .ok (.ireturn, 1) := by decide +kernel
theorem dX6_bits_0 : decode cX6_bits 0 = .ok (.iconst 0, 1) := by decide +kernel
theorem dX6_bits_1 : decode cX6_bits 1 = .ok (.istore_n 1, 1) := by decide +kernel
theorem dX6_bits_2 : decode cX6_bits 2 = .ok (.iconst 0, 1) := by decide +kernel
theorem dX6_bits_3 : decode cX6_bits 3 = .ok (.istore_n 2, 1) := by decide +kernel
theorem dX6_bits_4 : decode cX6_bits 4 = .ok (.iload_n 2, 1) := by decide +kernel
theorem dX6_bits_5 : decode cX6_bits 5 = .ok (.bipush 10, 2) := by decide +kernel
theorem dX6_bits_7 : decode cX6_bits 7 = .ok (.if_icmp .ge 17, 3) := by decide +kernel
theorem dX6_bits_10 : decode cX6_bits 10 = .ok (.iload_n 1, 1) := by decide +kernel
theorem dX6_bits_11 : decode cX6_bits 11 = .ok (.iload_n 0, 1) := by decide +kernel
theorem dX6_bits_12 : decode cX6_bits 12 = .ok (.iload_n 2, 1) := by decide +kernel
theorem dX6_bits_13 : decode cX6_bits 13 = .ok (.ishr, 1) := by decide +kernel
theorem dX6_bits_14 : decode cX6_bits 14 = .ok (.iconst 1, 1) := by decide +kernel
theorem dX6_bits_15 : decode cX6_bits 15 = .ok (.iand, 1) := by decide +kernel
theorem dX6_bits_16 : decode cX6_bits 16 = .ok (.iadd, 1) := by decide +kernel
theorem dX6_bits_17 : decode cX6_bits 17 = .ok (.istore_n 1, 1) := by decide +kernel
theorem dX6_bits_18 : decode cX6_bits 18 = .ok (.iinc 2 1, 3) := by decide +kernel
theorem dX6_bits_21 : decode cX6_bits 21 = .ok (.goto (-17), 3) := by decide +kernel
theorem dX6_bits_24 : decode cX6_bits 24 = .ok (.iload_n 1, 1) := by decide +kernel
theorem dX6_bits_25 : decode cX6_bits 25 = .ok (.ireturn, 1) := by decide +kernel
set_option maxRecDepth 20000 in
theorem ggX6_isPiece_X6_in : GoodIn wsX6_isPiece wsX6_in := goodIn_r _ [5] (by decide +kernel) (by decide +kernel)
set_option maxRecDepth 20000 in
theorem gX6_isPiece_X6_in : GoodIn wsX6_isPiece (va_wsS RX6 76 yX6_in wsX6_in) := goodIn_app (goodIn_of _ (by decide +kernel)) ggX6_isPiece_X6_in
theorem dX6_isPiece_0 : decode cX6_isPiece 0 = .ok (.iload_n 1, 1) := by decide +kernel
theorem dX6_isPiece_1 : decode cX6_isPiece 1 = .ok (.iconst 0, 1) := by decide +kernel
theorem dX6_isPiece_2 : decode cX6_isPiece 2 = .ok (.aload_n 0, 1) := by decide +kernel
theorem dX6_isPiece_3 : decode cX6_isPiece 3 = .ok (.getfield 73, 3) := by decide +kernel
theorem dX6_isPiece_6 : decode cX6_isPiece 6 = .ok (.iconst 1, 1) := by decide +kernel
theorem dX6_isPiece_7 : decode cX6_isPiece 7 = .ok (.isub, 1) := by decide +kernel
theorem dX6_isPiece_8 : decode cX6_isPiece 8 = .ok (.invokestatic 76, 3) := by decide +kernel
theorem dX6_isPiece_11 : decode cX6_isPiece 11 = .ok (.ireturn, 1) := by decide +kernel
set_option maxRecDepth 20000 in
theorem ggX6_isDeed_X6_in : GoodIn wsX6_isDeed wsX6_in := goodIn_r _ [5] (by decide +kernel) (by decide +kernel)
set_option maxRecDepth 20000 in
theorem gX6_isDeed_X6_in : GoodIn wsX6_isDeed (va_wsS RX6 76 yX6_in wsX6_in) := goodIn_app (goodIn_of _ (by decide +kernel)) ggX6_isDeed_X6_in
theorem dX6_isDeed_0 : decode cX6_isDeed 0 = .ok (.iload_n 1, 1) := by decide +kernel
theorem dX6_isDeed_1 : decode cX6_isDeed 1 = .ok (.iconst 0, 1) := by decide +kernel
theorem dX6_isDeed_2 : decode cX6_isDeed 2 = .ok (.aload_n 0, 1) := by decide +kernel
theorem dX6_isDeed_3 : decode cX6_isDeed 3 = .ok (.getfield 80, 3) := by decide +kernel
theorem dX6_isDeed_6 : decode cX6_isDeed 6 = .ok (.iconst 1, 1) := by decide +kernel
theorem dX6_isDeed_7 : decode cX6_isDeed 7 = .ok (.isub, 1) := by decide +kernel
theorem dX6_isDeed_8 : decode cX6_isDeed 8 = .ok (.invokestatic 76, 3) := by decide +kernel
theorem dX6_isDeed_11 : decode cX6_isDeed 11 = .ok (.ireturn, 1) := by decide +kernel
set_option maxRecDepth 20000 in
theorem ggX6_write_X6_in : GoodIn wsX6_write wsX6_in := goodIn_r _ [6] (by decide +kernel) (by decide +kernel)
set_option maxRecDepth 20000 in
theorem gX6_write_X6_in : GoodIn wsX6_write (va_wsS RX6 76 yX6_in wsX6_in) := goodIn_app (goodIn_of _ (by decide +kernel)) ggX6_write_X6_in
theorem dX6_write_0 : decode cX6_write 0 = .ok (.iload_n 1, 1) := by decide +kernel
theorem dX6_write_1 : decode cX6_write 1 = .ok (.bipush 32, 2) := by decide +kernel
theorem dX6_write_3 : decode cX6_write 3 = .ok (.bipush 126, 2) := by decide +kernel
theorem dX6_write_5 : decode cX6_write 5 = .ok (.invokestatic 76, 3) := by decide +kernel
theorem dX6_write_8 : decode cX6_write 8 = .ok (.ifCond .ne 5, 3) := by decide +kernel
theorem dX6_write_11 : decode cX6_write 11 = .ok (.iconst (-1), 1) := by decide +kernel
theorem dX6_write_12 : decode cX6_write 12 = .ok (.ireturn, 1) := by decide +kernel
theorem dX6_write_13 : decode cX6_write 13 = .ok (.aload_n 0, 1) := by decide +kernel
theorem dX6_write_14 : decode cX6_write 14 = .ok (.getfield 83, 3) := by decide +kernel
theorem dX6_write_17 : decode cX6_write 17 = .ok (.sipush 200, 3) := by decide +kernel
theorem dX6_write_20 : decode cX6_write 20 = .ok (.if_icmp .ne 6, 3) := by decide +kernel
theorem dX6_write_23 : decode cX6_write 23 = .ok (.bipush (-3), 2) := by decide +kernel
theorem dX6_write_25 : decode cX6_write 25 = .ok (.ireturn, 1) := by decide +kernel
theorem dX6_write_26 : decode cX6_write 26 = .ok (.aload_n 0, 1) := by decide +kernel
theorem dX6_write_27 : decode cX6_write 27 = .ok (.getfield 28, 3) := by decide +kernel
theorem dX6_write_30 : decode cX6_write 30 = .ok (.aload_n 0, 1) := by decide +kernel
theorem dX6_write_31 : decode cX6_write 31 = .ok (.getfield 83, 3) := by decide +kernel
theorem dX6_write_34 : decode cX6_write 34 = .ok (.iload_n 1, 1) := by decide +kernel
theorem dX6_write_35 : decode cX6_write 35 = .ok (.iastore, 1) := by decide +kernel
theorem dX6_write_36 : decode cX6_write 36 = .ok (.aload_n 0, 1) := by decide +kernel
theorem dX6_write_37 : decode cX6_write 37 = .ok (.dup, 1) := by decide +kernel
theorem dX6_write_38 : decode cX6_write 38 = .ok (.getfield 83, 3) := by decide +kernel
theorem dX6_write_41 : decode cX6_write 41 = .ok (.iconst 1, 1) := by decide +kernel
theorem dX6_write_42 : decode cX6_write 42 = .ok (.iadd, 1) := by decide +kernel
theorem dX6_write_43 : decode cX6_write 43 = .ok (.putfield 83, 3) := by decide +kernel
theorem dX6_write_46 : decode cX6_write 46 = .ok (.aload_n 0, 1) := by decide +kernel
theorem dX6_write_47 : decode cX6_write 47 = .ok (.getfield 83, 3) := by decide +kernel
theorem dX6_write_50 : decode cX6_write 50 = .ok (.ireturn, 1) := by decide +kernel
theorem dX6_wipe_0 : decode cX6_wipe 0 = .ok (.aload_n 0, 1) := by decide +kernel
theorem dX6_wipe_1 : decode cX6_wipe 1 = .ok (.getfield 83, 3) := by decide +kernel
theorem dX6_wipe_4 : decode cX6_wipe 4 = .ok (.istore_n 1, 1) := by decide +kernel
theorem dX6_wipe_5 : decode cX6_wipe 5 = .ok (.aload_n 0, 1) := by decide +kernel
theorem dX6_wipe_6 : decode cX6_wipe 6 = .ok (.iconst 0, 1) := by decide +kernel
theorem dX6_wipe_7 : decode cX6_wipe 7 = .ok (.putfield 83, 3) := by decide +kernel
theorem dX6_wipe_10 : decode cX6_wipe 10 = .ok (.iload_n 1, 1) := by decide +kernel
theorem dX6_wipe_11 : decode cX6_wipe 11 = .ok (.ireturn, 1) := by decide +kernel
theorem dX6_letterAt_0 : decode cX6_letterAt 0 = .ok (.iload_n 1, 1) := by decide +kernel
theorem dX6_letterAt_1 : decode cX6_letterAt 1 = .ok (.aload_n 0, 1) := by decide +kernel
theorem dX6_letterAt_2 : decode cX6_letterAt 2 = .ok (.getfield 83, 3) := by decide +kernel
theorem dX6_letterAt_5 : decode cX6_letterAt 5 = .ok (.if_icmp .ge 12, 3) := by decide +kernel
theorem dX6_letterAt_8 : decode cX6_letterAt 8 = .ok (.aload_n 0, 1) := by decide +kernel
theorem dX6_letterAt_9 : decode cX6_letterAt 9 = .ok (.getfield 28, 3) := by decide +kernel
theorem dX6_letterAt_12 : decode cX6_letterAt 12 = .ok (.iload_n 1, 1) := by decide +kernel
theorem dX6_letterAt_13 : decode cX6_letterAt 13 = .ok (.iaload, 1) := by decide +kernel
theorem dX6_letterAt_14 : decode cX6_letterAt 14 = .ok (.goto 4, 3) := by decide +kernel
theorem dX6_letterAt_17 : decode cX6_letterAt 17 = .ok (.iconst (-1), 1) := by decide +kernel
theorem dX6_letterAt_18 : decode cX6_letterAt 18 = .ok (.ireturn, 1) := by decide +kernel
set_option maxRecDepth 20000 in
theorem ggX6_isFigure_X6_in : GoodIn wsX6_isFigure wsX6_in := goodIn_r _ [4] (by decide +kernel) (by decide +kernel)
set_option maxRecDepth 20000 in
theorem gX6_isFigure_X6_in : GoodIn wsX6_isFigure (va_wsS RX6 76 yX6_in wsX6_in) := goodIn_app (goodIn_of _ (by decide +kernel)) ggX6_isFigure_X6_in
theorem dX6_isFigure_0 : decode cX6_isFigure 0 = .ok (.iload_n 0, 1) := by decide +kernel
theorem dX6_isFigure_1 : decode cX6_isFigure 1 = .ok (.bipush 48, 2) := by decide +kernel
theorem dX6_isFigure_3 : decode cX6_isFigure 3 = .ok (.bipush 57, 2) := by decide +kernel
theorem dX6_isFigure_5 : decode cX6_isFigure 5 = .ok (.invokestatic 76, 3) := by decide +kernel
theorem dX6_isFigure_8 : decode cX6_isFigure 8 = .ok (.ireturn, 1) := by decide +kernel
set_option maxRecDepth 20000 in
theorem ggX6_readNumbers_X6_letterAt : GoodIn wsX6_readNumbers wsX6_letterAt := goodIn_r _ [7, 8, 9, 16, 17, 18, 19, 20, 21, 22, 23, 24, 25, 26, 27, 28, 29, 30, 31, 32, 33, 34, 35, 36, 37, 38, 39] (by decide +kernel) (by decide +kernel)
set_option maxRecDepth 20000 in
theorem gX6_readNumbers_X6_letterAt : GoodIn wsX6_readNumbers (wsV RX6 89 RX6 yX6_letterAt wsX6_letterAt) := goodIn_app (goodIn_of _ (by decide +kernel)) ggX6_readNumbers_X6_letterAt
set_option maxRecDepth 20000 in
theorem ggX6_readNumbers_X6_isFigure : GoodIn wsX6_readNumbers wsX6_isFigure := goodIn_r _ [12, 13, 14, 6, 15] (by decide +kernel) (by decide +kernel)
set_option maxRecDepth 20000 in
theorem gX6_readNumbers_X6_isFigure : GoodIn wsX6_readNumbers (va_wsS RX6 93 yX6_isFigure wsX6_isFigure) := goodIn_app (goodIn_of _ (by decide +kernel)) ggX6_readNumbers_X6_isFigure
theorem dX6_readNumbers_0 : decode cX6_readNumbers 0 = .ok (.iconst 0, 1) := by decide +kernel
theorem dX6_readNumbers_1 : decode cX6_readNumbers 1 = .ok (.istore_n 2, 1) := by decide +kernel
theorem dX6_readNumbers_2 : decode cX6_readNumbers 2 = .ok (.iload_n 2, 1) := by decide +kernel
theorem dX6_readNumbers_3 : decode cX6_readNumbers 3 = .ok (.iload_n 1, 1) := by decide +kernel
theorem dX6_readNumbers_4 : decode cX6_readNumbers 4 = .ok (.if_icmp .ge 140, 3) := by decide +kernel
theorem dX6_readNumbers_7 : decode cX6_readNumbers 7 = .ok (.aload_n 0, 1) := by decide +kernel
theorem dX6_readNumbers_8 : decode cX6_readNumbers 8 = .ok (.aload_n 0, 1) := by decide +kernel
theorem dX6_readNumbers_9 : decode cX6_readNumbers 9 = .ok (.getfield 86, 3) := by decide +kernel
theorem dX6_readNumbers_12 : decode cX6_readNumbers 12 = .ok (.invokevirtual 89, 3) := by decide +kernel
theorem dX6_readNumbers_15 : decode cX6_readNumbers 15 = .ok (.invokestatic 93, 3) := by decide +kernel
theorem dX6_readNumbers_18 : decode cX6_readNumbers 18 = .ok (.ifCond .ne 5, 3) := by decide +kernel
theorem dX6_readNumbers_21 : decode cX6_readNumbers 21 = .ok (.iconst 0, 1) := by decide +kernel
theorem dX6_readNumbers_22 : decode cX6_readNumbers 22 = .ok (.ireturn, 1) := by decide +kernel
theorem dX6_readNumbers_23 : decode cX6_readNumbers 23 = .ok (.aload_n 0, 1) := by decide +kernel
theorem dX6_readNumbers_24 : decode cX6_readNumbers 24 = .ok (.getfield 31, 3) := by decide +kernel
theorem dX6_readNumbers_27 : decode cX6_readNumbers 27 = .ok (.iload_n 2, 1) := by decide +kernel
theorem dX6_readNumbers_28 : decode cX6_readNumbers 28 = .ok (.aload_n 0, 1) := by decide +kernel
theorem dX6_readNumbers_29 : decode cX6_readNumbers 29 = .ok (.aload_n 0, 1) := by decide +kernel
theorem dX6_readNumbers_30 : decode cX6_readNumbers 30 = .ok (.getfield 86, 3) := by decide +kernel
theorem dX6_readNumbers_33 : decode cX6_readNumbers 33 = .ok (.invokevirtual 89, 3) := by decide +kernel
theorem dX6_readNumbers_36 : decode cX6_readNumbers 36 = .ok (.bipush 48, 2) := by decide +kernel
theorem dX6_readNumbers_38 : decode cX6_readNumbers 38 = .ok (.isub, 1) := by decide +kernel
theorem dX6_readNumbers_39 : decode cX6_readNumbers 39 = .ok (.iastore, 1) := by decide +kernel
theorem dX6_readNumbers_40 : decode cX6_readNumbers 40 = .ok (.aload_n 0, 1) := by decide +kernel
theorem dX6_readNumbers_41 : decode cX6_readNumbers 41 = .ok (.dup, 1) := by decide +kernel
theorem dX6_readNumbers_42 : decode cX6_readNumbers 42 = .ok (.getfield 86, 3) := by decide +kernel
theorem dX6_readNumbers_45 : decode cX6_readNumbers 45 = .ok (.iconst 1, 1) := by decide +kernel
theorem dX6_readNumbers_46 : decode cX6_readNumbers 46 = .ok (.iadd, 1) := by decide +kernel
theorem dX6_readNumbers_47 : decode cX6_readNumbers 47 = .ok (.putfield 86, 3) := by decide +kernel
theorem dX6_readNumbers_50 : decode cX6_readNumbers 50 = .ok (.aload_n 0, 1) := by decide +kernel
theorem dX6_readNumbers_51 : decode cX6_readNumbers 51 = .ok (.aload_n 0, 1) := by decide +kernel
theorem dX6_readNumbers_52 : decode cX6_readNumbers 52 = .ok (.getfield 86, 3) := by decide +kernel
theorem dX6_readNumbers_55 : decode cX6_readNumbers 55 = .ok (.invokevirtual 89, 3) := by decide +kernel
theorem dX6_readNumbers_58 : decode cX6_readNumbers 58 = .ok (.invokestatic 93, 3) := by decide +kernel
theorem dX6_readNumbers_61 : decode cX6_readNumbers 61 = .ok (.ifCond .eq 40, 3) := by decide +kernel
theorem dX6_readNumbers_64 : decode cX6_readNumbers 64 = .ok (.aload_n 0, 1) := by decide +kernel
theorem dX6_readNumbers_65 : decode cX6_readNumbers 65 = .ok (.getfield 31, 3) := by decide +kernel
theorem dX6_readNumbers_68 : decode cX6_readNumbers 68 = .ok (.iload_n 2, 1) := by decide +kernel
theorem dX6_readNumbers_69 : decode cX6_readNumbers 69 = .ok (.bipush 10, 2) := by decide +kernel
theorem dX6_readNumbers_71 : decode cX6_readNumbers 71 = .ok (.aload_n 0, 1) := by decide +kernel
theorem dX6_readNumbers_72 : decode cX6_readNumbers 72 = .ok (.getfield 31, 3) := by decide +kernel
theorem dX6_readNumbers_75 : decode cX6_readNumbers 75 = .ok (.iload_n 2, 1) := by decide +kernel
theorem dX6_readNumbers_76 : decode cX6_readNumbers 76 = .ok (.iaload, 1) := by decide +kernel
theorem dX6_readNumbers_77 : decode cX6_readNumbers 77 = .ok (.imul, 1) := by decide +kernel
theorem dX6_readNumbers_78 : decode cX6_readNumbers 78 = .ok (.aload_n 0, 1) := by decide +kernel
theorem dX6_readNumbers_79 : decode cX6_readNumbers 79 = .ok (.aload_n 0, 1) := by decide +kernel
theorem dX6_readNumbers_80 : decode cX6_readNumbers 80 = .ok (.getfield 86, 3) := by decide +kernel
theorem dX6_readNumbers_83 : decode cX6_readNumbers 83 = .ok (.invokevirtual 89, 3) := by decide +kernel
theorem dX6_readNumbers_86 : decode cX6_readNumbers 86 = .ok (.iadd, 1) := by decide +kernel
theorem dX6_readNumbers_87 : decode cX6_readNumbers 87 = .ok (.bipush 48, 2) := by decide +kernel
theorem dX6_readNumbers_89 : decode cX6_readNumbers 89 = .ok (.isub, 1) := by decide +kernel
theorem dX6_readNumbers_90 : decode cX6_readNumbers 90 = .ok (.iastore, 1) := by decide +kernel
theorem dX6_readNumbers_91 : decode cX6_readNumbers 91 = .ok (.aload_n 0, 1) := by decide +kernel
theorem dX6_readNumbers_92 : decode cX6_readNumbers 92 = .ok (.dup, 1) := by decide +kernel
theorem dX6_readNumbers_93 : decode cX6_readNumbers 93 = .ok (.getfield 86, 3) := by decide +kernel
theorem dX6_readNumbers_96 : decode cX6_readNumbers 96 = .ok (.iconst 1, 1) := by decide +kernel
theorem dX6_readNumbers_97 : decode cX6_readNumbers 97 = .ok (.iadd, 1) := by decide +kernel
theorem dX6_readNumbers_98 : decode cX6_readNumbers 98 = .ok (.putfield 86, 3) := by decide +kernel
theorem dX6_readNumbers_101 : decode cX6_readNumbers 101 = .ok (.aload_n 0, 1) := by decide +kernel
theorem dX6_readNumbers_102 : decode cX6_readNumbers 102 = .ok (.aload_n 0, 1) := by decide +kernel
theorem dX6_readNumbers_103 : decode cX6_readNumbers 103 = .ok (.getfield 86, 3) := by decide +kernel
theorem dX6_readNumbers_106 : decode cX6_readNumbers 106 = .ok (.invokevirtual 89, 3) := by decide +kernel
theorem dX6_readNumbers_109 : decode cX6_readNumbers 109 = .ok (.iload_n 2, 1) := by decide +kernel
theorem dX6_readNumbers_110 : decode cX6_readNumbers 110 = .ok (.iload_n 1, 1) := by decide +kernel
theorem dX6_readNumbers_111 : decode cX6_readNumbers 111 = .ok (.iconst 1, 1) := by decide +kernel
theorem dX6_readNumbers_112 : decode cX6_readNumbers 112 = .ok (.isub, 1) := by decide +kernel
theorem dX6_readNumbers_113 : decode cX6_readNumbers 113 = .ok (.if_icmp .ge 8, 3) := by decide +kernel
theorem dX6_readNumbers_116 : decode cX6_readNumbers 116 = .ok (.bipush 44, 2) := by decide +kernel
theorem dX6_readNumbers_118 : decode cX6_readNumbers 118 = .ok (.goto 5, 3) := by decide +kernel
theorem dX6_readNumbers_121 : decode cX6_readNumbers 121 = .ok (.bipush 59, 2) := by decide +kernel
theorem dX6_readNumbers_123 : decode cX6_readNumbers 123 = .ok (.if_icmp .eq 5, 3) := by decide +kernel
theorem dX6_readNumbers_126 : decode cX6_readNumbers 126 = .ok (.iconst 0, 1) := by decide +kernel
theorem dX6_readNumbers_127 : decode cX6_readNumbers 127 = .ok (.ireturn, 1) := by decide +kernel
theorem dX6_readNumbers_128 : decode cX6_readNumbers 128 = .ok (.aload_n 0, 1) := by decide +kernel
theorem dX6_readNumbers_129 : decode cX6_readNumbers 129 = .ok (.dup, 1) := by decide +kernel
theorem dX6_readNumbers_130 : decode cX6_readNumbers 130 = .ok (.getfield 86, 3) := by decide +kernel
theorem dX6_readNumbers_133 : decode cX6_readNumbers 133 = .ok (.iconst 1, 1) := by decide +kernel
theorem dX6_readNumbers_134 : decode cX6_readNumbers 134 = .ok (.iadd, 1) := by decide +kernel
theorem dX6_readNumbers_135 : decode cX6_readNumbers 135 = .ok (.putfield 86, 3) := by decide +kernel
theorem dX6_readNumbers_138 : decode cX6_readNumbers 138 = .ok (.iinc 2 1, 3) := by decide +kernel
theorem dX6_readNumbers_141 : decode cX6_readNumbers 141 = .ok (.goto (-139), 3) := by decide +kernel
theorem dX6_readNumbers_144 : decode cX6_readNumbers 144 = .ok (.iconst 1, 1) := by decide +kernel
theorem dX6_readNumbers_145 : decode cX6_readNumbers 145 = .ok (.ireturn, 1) := by decide +kernel
set_option maxRecDepth 20000 in
theorem ggX6_isTold_X6_in : GoodIn wsX6_isTold wsX6_in := goodIn_r _ [5] (by decide +kernel) (by decide +kernel)
set_option maxRecDepth 20000 in
theorem gX6_isTold_X6_in : GoodIn wsX6_isTold (va_wsS RX6 76 yX6_in wsX6_in) := goodIn_app (goodIn_of _ (by decide +kernel)) ggX6_isTold_X6_in
theorem dX6_isTold_0 : decode cX6_isTold 0 = .ok (.aload_n 0, 1) := by decide +kernel
theorem dX6_isTold_1 : decode cX6_isTold 1 = .ok (.getfield 31, 3) := by decide +kernel
theorem dX6_isTold_4 : decode cX6_isTold 4 = .ok (.iload_n 1, 1) := by decide +kernel
theorem dX6_isTold_5 : decode cX6_isTold 5 = .ok (.iaload, 1) := by decide +kernel
theorem dX6_isTold_6 : decode cX6_isTold 6 = .ok (.iload_n 2, 1) := by decide +kernel
theorem dX6_isTold_7 : decode cX6_isTold 7 = .ok (.iload_n 3, 1) := by decide +kernel
theorem dX6_isTold_8 : decode cX6_isTold 8 = .ok (.invokestatic 76, 3) := by decide +kernel
theorem dX6_isTold_11 : decode cX6_isTold 11 = .ok (.ireturn, 1) := by decide +kernel
theorem dX6_clearTold_0 : decode cX6_clearTold 0 = .ok (.aload_n 0, 1) := by decide +kernel
theorem dX6_clearTold_1 : decode cX6_clearTold 1 = .ok (.iconst 0, 1) := by decide +kernel
theorem dX6_clearTold_2 : decode cX6_clearTold 2 = .ok (.putfield 67, 3) := by decide +kernel
theorem dX6_clearTold_5 : decode cX6_clearTold 5 = .ok (.aload_n 0, 1) := by decide +kernel
theorem dX6_clearTold_6 : decode cX6_clearTold 6 = .ok (.iconst 0, 1) := by decide +kernel
theorem dX6_clearTold_7 : decode cX6_clearTold 7 = .ok (.putfield 70, 3) := by decide +kernel
theorem dX6_clearTold_10 : decode cX6_clearTold 10 = .ok (.aload_n 0, 1) := by decide +kernel
theorem dX6_clearTold_11 : decode cX6_clearTold 11 = .ok (.bipush 50, 2) := by decide +kernel
theorem dX6_clearTold_13 : decode cX6_clearTold 13 = .ok (.putfield 57, 3) := by decide +kernel
theorem dX6_clearTold_16 : decode cX6_clearTold 16 = .ok (.aload_n 0, 1) := by decide +kernel
theorem dX6_clearTold_17 : decode cX6_clearTold 17 = .ok (.iconst 0, 1) := by decide +kernel
theorem dX6_clearTold_18 : decode cX6_clearTold 18 = .ok (.putfield 61, 3) := by decide +kernel
theorem dX6_clearTold_21 : decode cX6_clearTold 21 = .ok (.return_, 1) := by decide +kernel
set_option maxRecDepth 20000 in
theorem ggX6_readPieceOf_X6_readNumbers : GoodIn wsX6_readPieceOf wsX6_readNumbers := goodIn_r _ [7, 8, 2, 9, 10, 11, 6, 12, 13, 14, 15, 16, 17, 18, 19, 20, 31, 32, 33, 34, 35, 36, 37, 38, 39, 40, 41, 42, 43, 44, 45, 46, 47, 48, 49, 50, 51, 52, 53, 54] (by decide +kernel) (by decide +kernel)
set_option maxRecDepth 20000 in
theorem gX6_readPieceOf_X6_readNumbers : GoodIn wsX6_readPieceOf (wsV RX6 97 RX6 yX6_readNumbers wsX6_readNumbers) := goodIn_app (goodIn_of _ (by decide +kernel)) ggX6_readPieceOf_X6_readNumbers
set_option maxRecDepth 20000 in
theorem ggX6_readPieceOf_X6_isTold : GoodIn wsX6_readPieceOf wsX6_isTold := goodIn_r _ [24, 2, 18, 19, 6, 20, 31, 32, 33, 34, 35, 36, 37, 38, 39, 40, 41, 42, 43, 44, 45, 46, 47, 48, 49, 50, 51, 52, 53, 54] (by decide +kernel) (by decide +kernel)
set_option maxRecDepth 20000 in
theorem gX6_readPieceOf_X6_isTold : GoodIn wsX6_readPieceOf (wsV RX6 100 RX6 yX6_isTold wsX6_isTold) := goodIn_app (goodIn_of _ (by decide +kernel)) ggX6_readPieceOf_X6_isTold
set_option maxRecDepth 20000 in
theorem ggX6_readPieceOf_X6_tellsPiece : GoodIn wsX6_readPieceOf wsX6_tellsPiece := goodIn_r _ [28, 29, 1, 30, 31, 32, 33, 34, 35, 36, 37, 38, 39, 40, 41, 42, 43, 44, 45, 46, 47, 48, 49, 50, 51, 52, 53, 54] (by decide +kernel) (by decide +kernel)
set_option maxRecDepth 20000 in
theorem gX6_readPieceOf_X6_tellsPiece : GoodIn wsX6_readPieceOf (wsV RX6 49 RX6 yX6_tellsPiece wsX6_tellsPiece) := goodIn_app (goodIn_of _ (by decide +kernel)) ggX6_readPieceOf_X6_tellsPiece
theorem dX6_readPieceOf_0 : decode cX6_readPieceOf 0 = .ok (.aload_n 0, 1) := by decide +kernel
theorem dX6_readPieceOf_1 : decode cX6_readPieceOf 1 = .ok (.getfield 67, 3) := by decide +kernel
theorem dX6_readPieceOf_4 : decode cX6_readPieceOf 4 = .ok (.bipush 8, 2) := by decide +kernel
theorem dX6_readPieceOf_6 : decode cX6_readPieceOf 6 = .ok (.if_icmp .eq 42, 3) := by decide +kernel
theorem dX6_readPieceOf_9 : decode cX6_readPieceOf 9 = .ok (.aload_n 0, 1) := by decide +kernel
theorem dX6_readPieceOf_10 : decode cX6_readPieceOf 10 = .ok (.iconst 3, 1) := by decide +kernel
theorem dX6_readPieceOf_11 : decode cX6_readPieceOf 11 = .ok (.invokevirtual 97, 3) := by decide +kernel
theorem dX6_readPieceOf_14 : decode cX6_readPieceOf 14 = .ok (.ifCond .eq 34, 3) := by decide +kernel
theorem dX6_readPieceOf_17 : decode cX6_readPieceOf 17 = .ok (.aload_n 0, 1) := by decide +kernel
theorem dX6_readPieceOf_18 : decode cX6_readPieceOf 18 = .ok (.iconst 0, 1) := by decide +kernel
theorem dX6_readPieceOf_19 : decode cX6_readPieceOf 19 = .ok (.iconst 0, 1) := by decide +kernel
theorem dX6_readPieceOf_20 : decode cX6_readPieceOf 20 = .ok (.iconst 3, 1) := by decide +kernel
theorem dX6_readPieceOf_21 : decode cX6_readPieceOf 21 = .ok (.invokevirtual 100, 3) := by decide +kernel
theorem dX6_readPieceOf_24 : decode cX6_readPieceOf 24 = .ok (.ifCond .eq 24, 3) := by decide +kernel
theorem dX6_readPieceOf_27 : decode cX6_readPieceOf 27 = .ok (.aload_n 0, 1) := by decide +kernel
theorem dX6_readPieceOf_28 : decode cX6_readPieceOf 28 = .ok (.iconst 1, 1) := by decide +kernel
theorem dX6_readPieceOf_29 : decode cX6_readPieceOf 29 = .ok (.iconst 0, 1) := by decide +kernel
theorem dX6_readPieceOf_30 : decode cX6_readPieceOf 30 = .ok (.iconst 3, 1) := by decide +kernel
theorem dX6_readPieceOf_31 : decode cX6_readPieceOf 31 = .ok (.invokevirtual 100, 3) := by decide +kernel
theorem dX6_readPieceOf_34 : decode cX6_readPieceOf 34 = .ok (.ifCond .eq 14, 3) := by decide +kernel
theorem dX6_readPieceOf_37 : decode cX6_readPieceOf 37 = .ok (.aload_n 0, 1) := by decide +kernel
theorem dX6_readPieceOf_38 : decode cX6_readPieceOf 38 = .ok (.iconst 2, 1) := by decide +kernel
theorem dX6_readPieceOf_39 : decode cX6_readPieceOf 39 = .ok (.iconst 0, 1) := by decide +kernel
theorem dX6_readPieceOf_40 : decode cX6_readPieceOf 40 = .ok (.bipush 60, 2) := by decide +kernel
theorem dX6_readPieceOf_42 : decode cX6_readPieceOf 42 = .ok (.invokevirtual 100, 3) := by decide +kernel
theorem dX6_readPieceOf_45 : decode cX6_readPieceOf 45 = .ok (.ifCond .ne 5, 3) := by decide +kernel
theorem dX6_readPieceOf_48 : decode cX6_readPieceOf 48 = .ok (.iconst 0, 1) := by decide +kernel
theorem dX6_readPieceOf_49 : decode cX6_readPieceOf 49 = .ok (.ireturn, 1) := by decide +kernel
theorem dX6_readPieceOf_50 : decode cX6_readPieceOf 50 = .ok (.aload_n 0, 1) := by decide +kernel
theorem dX6_readPieceOf_51 : decode cX6_readPieceOf 51 = .ok (.aload_n 0, 1) := by decide +kernel
theorem dX6_readPieceOf_52 : decode cX6_readPieceOf 52 = .ok (.getfield 31, 3) := by decide +kernel
theorem dX6_readPieceOf_55 : decode cX6_readPieceOf 55 = .ok (.iconst 0, 1) := by decide +kernel
theorem dX6_readPieceOf_56 : decode cX6_readPieceOf 56 = .ok (.iaload, 1) := by decide +kernel
theorem dX6_readPieceOf_57 : decode cX6_readPieceOf 57 = .ok (.aload_n 0, 1) := by decide +kernel
theorem dX6_readPieceOf_58 : decode cX6_readPieceOf 58 = .ok (.getfield 31, 3) := by decide +kernel
theorem dX6_readPieceOf_61 : decode cX6_readPieceOf 61 = .ok (.iconst 1, 1) := by decide +kernel
theorem dX6_readPieceOf_62 : decode cX6_readPieceOf 62 = .ok (.iaload, 1) := by decide +kernel
theorem dX6_readPieceOf_63 : decode cX6_readPieceOf 63 = .ok (.aload_n 0, 1) := by decide +kernel
theorem dX6_readPieceOf_64 : decode cX6_readPieceOf 64 = .ok (.getfield 31, 3) := by decide +kernel
theorem dX6_readPieceOf_67 : decode cX6_readPieceOf 67 = .ok (.iconst 2, 1) := by decide +kernel
theorem dX6_readPieceOf_68 : decode cX6_readPieceOf 68 = .ok (.iaload, 1) := by decide +kernel
theorem dX6_readPieceOf_69 : decode cX6_readPieceOf 69 = .ok (.invokevirtual 49, 3) := by decide +kernel
theorem dX6_readPieceOf_72 : decode cX6_readPieceOf 72 = .ok (.iconst 1, 1) := by decide +kernel
theorem dX6_readPieceOf_73 : decode cX6_readPieceOf 73 = .ok (.ireturn, 1) := by decide +kernel
set_option maxRecDepth 20000 in
theorem ggX6_readDeedOf_X6_readNumbers : GoodIn wsX6_readDeedOf wsX6_readNumbers := goodIn_r _ [7, 8, 2, 9, 10, 11, 6, 12, 13, 14, 15, 16, 17, 18, 19, 20, 30, 31, 32, 33, 34, 35, 36, 37, 38, 39, 40, 41, 42, 43, 44, 45, 46, 47, 48, 49, 50, 51, 52, 53] (by decide +kernel) (by decide +kernel)
set_option maxRecDepth 20000 in
theorem gX6_readDeedOf_X6_readNumbers : GoodIn wsX6_readDeedOf (wsV RX6 97 RX6 yX6_readNumbers wsX6_readNumbers) := goodIn_app (goodIn_of _ (by decide +kernel)) ggX6_readDeedOf_X6_readNumbers
set_option maxRecDepth 20000 in
theorem ggX6_readDeedOf_X6_isTold : GoodIn wsX6_readDeedOf wsX6_isTold := goodIn_r _ [24, 2, 18, 19, 6, 20, 30, 31, 32, 33, 34, 35, 36, 37, 38, 39, 40, 41, 42, 43, 44, 45, 46, 47, 48, 49, 50, 51, 52, 53] (by decide +kernel) (by decide +kernel)
set_option maxRecDepth 20000 in
theorem gX6_readDeedOf_X6_isTold : GoodIn wsX6_readDeedOf (wsV RX6 100 RX6 yX6_isTold wsX6_isTold) := goodIn_app (goodIn_of _ (by decide +kernel)) ggX6_readDeedOf_X6_isTold
set_option maxRecDepth 20000 in
theorem ggX6_readDeedOf_X6_tellsDeed : GoodIn wsX6_readDeedOf wsX6_tellsDeed := goodIn_r _ [28, 29, 1, 30, 31, 32, 33, 34, 35, 36, 37, 38, 39, 40, 41, 42, 43, 44, 45, 46, 47, 48, 49, 50, 51, 52, 53] (by decide +kernel) (by decide +kernel)
set_option maxRecDepth 20000 in
theorem gX6_readDeedOf_X6_tellsDeed : GoodIn wsX6_readDeedOf (wsV RX6 53 RX6 yX6_tellsDeed wsX6_tellsDeed) := goodIn_app (goodIn_of _ (by decide +kernel)) ggX6_readDeedOf_X6_tellsDeed
theorem dX6_readDeedOf_0 : decode cX6_readDeedOf 0 = .ok (.aload_n 0, 1) := by decide +kernel
theorem dX6_readDeedOf_1 : decode cX6_readDeedOf 1 = .ok (.getfield 70, 3) := by decide +kernel
theorem dX6_readDeedOf_4 : decode cX6_readDeedOf 4 = .ok (.bipush 9, 2) := by decide +kernel
theorem dX6_readDeedOf_6 : decode cX6_readDeedOf 6 = .ok (.if_icmp .eq 53, 3) := by decide +kernel
theorem dX6_readDeedOf_9 : decode cX6_readDeedOf 9 = .ok (.aload_n 0, 1) := by decide +kernel
theorem dX6_readDeedOf_10 : decode cX6_readDeedOf 10 = .ok (.iconst 4, 1) := by decide +kernel
theorem dX6_readDeedOf_11 : decode cX6_readDeedOf 11 = .ok (.invokevirtual 97, 3) := by decide +kernel
theorem dX6_readDeedOf_14 : decode cX6_readDeedOf 14 = .ok (.ifCond .eq 45, 3) := by decide +kernel
theorem dX6_readDeedOf_17 : decode cX6_readDeedOf 17 = .ok (.aload_n 0, 1) := by decide +kernel
theorem dX6_readDeedOf_18 : decode cX6_readDeedOf 18 = .ok (.iconst 0, 1) := by decide +kernel
theorem dX6_readDeedOf_19 : decode cX6_readDeedOf 19 = .ok (.iconst 0, 1) := by decide +kernel
theorem dX6_readDeedOf_20 : decode cX6_readDeedOf 20 = .ok (.iconst 5, 1) := by decide +kernel
theorem dX6_readDeedOf_21 : decode cX6_readDeedOf 21 = .ok (.invokevirtual 100, 3) := by decide +kernel
theorem dX6_readDeedOf_24 : decode cX6_readDeedOf 24 = .ok (.ifCond .eq 35, 3) := by decide +kernel
theorem dX6_readDeedOf_27 : decode cX6_readDeedOf 27 = .ok (.aload_n 0, 1) := by decide +kernel
theorem dX6_readDeedOf_28 : decode cX6_readDeedOf 28 = .ok (.iconst 1, 1) := by decide +kernel
theorem dX6_readDeedOf_29 : decode cX6_readDeedOf 29 = .ok (.iconst 0, 1) := by decide +kernel
theorem dX6_readDeedOf_30 : decode cX6_readDeedOf 30 = .ok (.iconst 3, 1) := by decide +kernel
theorem dX6_readDeedOf_31 : decode cX6_readDeedOf 31 = .ok (.invokevirtual 100, 3) := by decide +kernel
theorem dX6_readDeedOf_34 : decode cX6_readDeedOf 34 = .ok (.ifCond .eq 25, 3) := by decide +kernel
theorem dX6_readDeedOf_37 : decode cX6_readDeedOf 37 = .ok (.aload_n 0, 1) := by decide +kernel
theorem dX6_readDeedOf_38 : decode cX6_readDeedOf 38 = .ok (.iconst 2, 1) := by decide +kernel
theorem dX6_readDeedOf_39 : decode cX6_readDeedOf 39 = .ok (.iconst 0, 1) := by decide +kernel
theorem dX6_readDeedOf_40 : decode cX6_readDeedOf 40 = .ok (.bipush 23, 2) := by decide +kernel
theorem dX6_readDeedOf_42 : decode cX6_readDeedOf 42 = .ok (.invokevirtual 100, 3) := by decide +kernel
theorem dX6_readDeedOf_45 : decode cX6_readDeedOf 45 = .ok (.ifCond .eq 14, 3) := by decide +kernel
theorem dX6_readDeedOf_48 : decode cX6_readDeedOf 48 = .ok (.aload_n 0, 1) := by decide +kernel
theorem dX6_readDeedOf_49 : decode cX6_readDeedOf 49 = .ok (.iconst 3, 1) := by decide +kernel
theorem dX6_readDeedOf_50 : decode cX6_readDeedOf 50 = .ok (.iconst 1, 1) := by decide +kernel
theorem dX6_readDeedOf_51 : decode cX6_readDeedOf 51 = .ok (.bipush 30, 2) := by decide +kernel
theorem dX6_readDeedOf_53 : decode cX6_readDeedOf 53 = .ok (.invokevirtual 100, 3) := by decide +kernel
theorem dX6_readDeedOf_56 : decode cX6_readDeedOf 56 = .ok (.ifCond .ne 5, 3) := by decide +kernel
theorem dX6_readDeedOf_59 : decode cX6_readDeedOf 59 = .ok (.iconst 0, 1) := by decide +kernel
theorem dX6_readDeedOf_60 : decode cX6_readDeedOf 60 = .ok (.ireturn, 1) := by decide +kernel
theorem dX6_readDeedOf_61 : decode cX6_readDeedOf 61 = .ok (.aload_n 0, 1) := by decide +kernel
theorem dX6_readDeedOf_62 : decode cX6_readDeedOf 62 = .ok (.aload_n 0, 1) := by decide +kernel
theorem dX6_readDeedOf_63 : decode cX6_readDeedOf 63 = .ok (.getfield 31, 3) := by decide +kernel
theorem dX6_readDeedOf_66 : decode cX6_readDeedOf 66 = .ok (.iconst 0, 1) := by decide +kernel
theorem dX6_readDeedOf_67 : decode cX6_readDeedOf 67 = .ok (.iaload, 1) := by decide +kernel
theorem dX6_readDeedOf_68 : decode cX6_readDeedOf 68 = .ok (.aload_n 0, 1) := by decide +kernel
theorem dX6_readDeedOf_69 : decode cX6_readDeedOf 69 = .ok (.getfield 31, 3) := by decide +kernel
theorem dX6_readDeedOf_72 : decode cX6_readDeedOf 72 = .ok (.iconst 1, 1) := by decide +kernel
theorem dX6_readDeedOf_73 : decode cX6_readDeedOf 73 = .ok (.iaload, 1) := by decide +kernel
theorem dX6_readDeedOf_74 : decode cX6_readDeedOf 74 = .ok (.aload_n 0, 1) := by decide +kernel
theorem dX6_readDeedOf_75 : decode cX6_readDeedOf 75 = .ok (.getfield 31, 3) := by decide +kernel
theorem dX6_readDeedOf_78 : decode cX6_readDeedOf 78 = .ok (.iconst 2, 1) := by decide +kernel
theorem dX6_readDeedOf_79 : decode cX6_readDeedOf 79 = .ok (.iaload, 1) := by decide +kernel
theorem dX6_readDeedOf_80 : decode cX6_readDeedOf 80 = .ok (.aload_n 0, 1) := by decide +kernel
theorem dX6_readDeedOf_81 : decode cX6_readDeedOf 81 = .ok (.getfield 31, 3) := by decide +kernel
theorem dX6_readDeedOf_84 : decode cX6_readDeedOf 84 = .ok (.iconst 3, 1) := by decide +kernel
theorem dX6_readDeedOf_85 : decode cX6_readDeedOf 85 = .ok (.iaload, 1) := by decide +kernel
theorem dX6_readDeedOf_86 : decode cX6_readDeedOf 86 = .ok (.invokevirtual 53, 3) := by decide +kernel
theorem dX6_readDeedOf_89 : decode cX6_readDeedOf 89 = .ok (.iconst 1, 1) := by decide +kernel
theorem dX6_readDeedOf_90 : decode cX6_readDeedOf 90 = .ok (.ireturn, 1) := by decide +kernel
set_option maxRecDepth 20000 in
theorem ggX6_readCoinsOf_X6_readNumbers : GoodIn wsX6_readCoinsOf wsX6_readNumbers := goodIn_r _ [7, 8, 1, 9, 10, 11, 6, 12, 13, 14, 15, 16, 17, 18, 19, 20, 21, 22, 23, 24, 25, 26, 27, 28, 29, 30, 31, 32, 33, 34, 35, 36, 37, 38, 39, 40, 41, 42, 43, 44] (by decide +kernel) (by decide +kernel)
set_option maxRecDepth 20000 in
theorem gX6_readCoinsOf_X6_readNumbers : GoodIn wsX6_readCoinsOf (wsV RX6 97 RX6 yX6_readNumbers wsX6_readNumbers) := goodIn_app (goodIn_of _ (by decide +kernel)) ggX6_readCoinsOf_X6_readNumbers
theorem dX6_readCoinsOf_0 : decode cX6_readCoinsOf 0 = .ok (.aload_n 0, 1) := by decide +kernel
theorem dX6_readCoinsOf_1 : decode cX6_readCoinsOf 1 = .ok (.iconst 1, 1) := by decide +kernel
theorem dX6_readCoinsOf_2 : decode cX6_readCoinsOf 2 = .ok (.invokevirtual 97, 3) := by decide +kernel
theorem dX6_readCoinsOf_5 : decode cX6_readCoinsOf 5 = .ok (.istore_n 1, 1) := by decide +kernel
theorem dX6_readCoinsOf_6 : decode cX6_readCoinsOf 6 = .ok (.aload_n 0, 1) := by decide +kernel
theorem dX6_readCoinsOf_7 : decode cX6_readCoinsOf 7 = .ok (.iload_n 1, 1) := by decide +kernel
theorem dX6_readCoinsOf_8 : decode cX6_readCoinsOf 8 = .ok (.ifCond .eq 12, 3) := by decide +kernel
theorem dX6_readCoinsOf_11 : decode cX6_readCoinsOf 11 = .ok (.aload_n 0, 1) := by decide +kernel
theorem dX6_readCoinsOf_12 : decode cX6_readCoinsOf 12 = .ok (.getfield 31, 3) := by decide +kernel
theorem dX6_readCoinsOf_15 : decode cX6_readCoinsOf 15 = .ok (.iconst 0, 1) := by decide +kernel
theorem dX6_readCoinsOf_16 : decode cX6_readCoinsOf 16 = .ok (.iaload, 1) := by decide +kernel
theorem dX6_readCoinsOf_17 : decode cX6_readCoinsOf 17 = .ok (.goto 7, 3) := by decide +kernel
theorem dX6_readCoinsOf_20 : decode cX6_readCoinsOf 20 = .ok (.aload_n 0, 1) := by decide +kernel
theorem dX6_readCoinsOf_21 : decode cX6_readCoinsOf 21 = .ok (.getfield 57, 3) := by decide +kernel
theorem dX6_readCoinsOf_24 : decode cX6_readCoinsOf 24 = .ok (.putfield 57, 3) := by decide +kernel
theorem dX6_readCoinsOf_27 : decode cX6_readCoinsOf 27 = .ok (.iload_n 1, 1) := by decide +kernel
theorem dX6_readCoinsOf_28 : decode cX6_readCoinsOf 28 = .ok (.ireturn, 1) := by decide +kernel
set_option maxRecDepth 20000 in
theorem ggX6_readLawOf_X6_readNumbers : GoodIn wsX6_readLawOf wsX6_readNumbers := goodIn_r _ [7, 8, 2, 9, 10, 11, 6, 12, 13, 14, 15, 16, 17, 18, 19, 20, 25, 26, 27, 28, 29, 30, 31, 32, 33, 34, 35, 36, 37, 38, 39, 40, 41, 42, 43, 44, 45, 46, 47, 48] (by decide +kernel) (by decide +kernel)
set_option maxRecDepth 20000 in
theorem gX6_readLawOf_X6_readNumbers : GoodIn wsX6_readLawOf (wsV RX6 97 RX6 yX6_readNumbers wsX6_readNumbers) := goodIn_app (goodIn_of _ (by decide +kernel)) ggX6_readLawOf_X6_readNumbers
set_option maxRecDepth 20000 in
theorem ggX6_readLawOf_X6_isTold : GoodIn wsX6_readLawOf wsX6_isTold := goodIn_r _ [24, 2, 18, 19, 6, 20, 25, 26, 27, 28, 29, 30, 31, 32, 33, 34, 35, 36, 37, 38, 39, 40, 41, 42, 43, 44, 45, 46, 47, 48] (by decide +kernel) (by decide +kernel)
set_option maxRecDepth 20000 in
theorem gX6_readLawOf_X6_isTold : GoodIn wsX6_readLawOf (wsV RX6 100 RX6 yX6_isTold wsX6_isTold) := goodIn_app (goodIn_of _ (by decide +kernel)) ggX6_readLawOf_X6_isTold
theorem dX6_readLawOf_0 : decode cX6_readLawOf 0 = .ok (.aload_n 0, 1) := by decide +kernel
theorem dX6_readLawOf_1 : decode cX6_readLawOf 1 = .ok (.iconst 1, 1) := by decide +kernel
theorem dX6_readLawOf_2 : decode cX6_readLawOf 2 = .ok (.invokevirtual 97, 3) := by decide +kernel
theorem dX6_readLawOf_5 : decode cX6_readLawOf 5 = .ok (.ifCond .eq 13, 3) := by decide +kernel
theorem dX6_readLawOf_8 : decode cX6_readLawOf 8 = .ok (.aload_n 0, 1) := by decide +kernel
theorem dX6_readLawOf_9 : decode cX6_readLawOf 9 = .ok (.iconst 0, 1) := by decide +kernel
theorem dX6_readLawOf_10 : decode cX6_readLawOf 10 = .ok (.iconst 0, 1) := by decide +kernel
theorem dX6_readLawOf_11 : decode cX6_readLawOf 11 = .ok (.iconst 3, 1) := by decide +kernel
theorem dX6_readLawOf_12 : decode cX6_readLawOf 12 = .ok (.invokevirtual 100, 3) := by decide +kernel
theorem dX6_readLawOf_15 : decode cX6_readLawOf 15 = .ok (.ifCond .ne 5, 3) := by decide +kernel
theorem dX6_readLawOf_18 : decode cX6_readLawOf 18 = .ok (.iconst 0, 1) := by decide +kernel
theorem dX6_readLawOf_19 : decode cX6_readLawOf 19 = .ok (.ireturn, 1) := by decide +kernel
theorem dX6_readLawOf_20 : decode cX6_readLawOf 20 = .ok (.aload_n 0, 1) := by decide +kernel
theorem dX6_readLawOf_21 : decode cX6_readLawOf 21 = .ok (.dup, 1) := by decide +kernel
theorem dX6_readLawOf_22 : decode cX6_readLawOf 22 = .ok (.getfield 61, 3) := by decide +kernel
theorem dX6_readLawOf_25 : decode cX6_readLawOf 25 = .ok (.iconst 1, 1) := by decide +kernel
theorem dX6_readLawOf_26 : decode cX6_readLawOf 26 = .ok (.aload_n 0, 1) := by decide +kernel
theorem dX6_readLawOf_27 : decode cX6_readLawOf 27 = .ok (.getfield 31, 3) := by decide +kernel
theorem dX6_readLawOf_30 : decode cX6_readLawOf 30 = .ok (.iconst 0, 1) := by decide +kernel
theorem dX6_readLawOf_31 : decode cX6_readLawOf 31 = .ok (.iaload, 1) := by decide +kernel
theorem dX6_readLawOf_32 : decode cX6_readLawOf 32 = .ok (.ishl, 1) := by decide +kernel
theorem dX6_readLawOf_33 : decode cX6_readLawOf 33 = .ok (.ior, 1) := by decide +kernel
theorem dX6_readLawOf_34 : decode cX6_readLawOf 34 = .ok (.putfield 61, 3) := by decide +kernel
theorem dX6_readLawOf_37 : decode cX6_readLawOf 37 = .ok (.iconst 1, 1) := by decide +kernel
theorem dX6_readLawOf_38 : decode cX6_readLawOf 38 = .ok (.ireturn, 1) := by decide +kernel
set_option maxRecDepth 20000 in
theorem ggX6_readItem_X6_letterAt : GoodIn wsX6_readItem wsX6_letterAt := goodIn_r _ [6, 7, 8, 55, 56, 57, 58, 59, 60, 61, 62, 63, 64, 65, 66, 67, 68, 69, 70, 71, 72, 73, 74, 75, 76, 77, 78] (by decide +kernel) (by decide +kernel)
set_option maxRecDepth 20000 in
theorem gX6_readItem_X6_letterAt : GoodIn wsX6_readItem (wsV RX6 89 RX6 yX6_letterAt wsX6_letterAt) := goodIn_app (goodIn_of _ (by decide +kernel)) ggX6_readItem_X6_letterAt
set_option maxRecDepth 20000 in
theorem ggX6_readItem_X6_readPieceOf : GoodIn wsX6_readItem wsX6_readPieceOf := goodIn_r _ [12, 13, 14, 15, 16, 17, 5, 18, 1, 2, 3, 4, 6, 7, 8, 19, 20, 21, 22, 23, 24, 25, 26, 27, 28, 29, 30, 31, 32, 33, 34, 55, 56, 57, 58, 59, 60, 61, 62, 63, 64, 65, 66, 67, 68, 69, 70, 71, 72, 73, 74, 75, 76, 77, 78] (by decide +kernel) (by decide +kernel)
set_option maxRecDepth 20000 in
theorem gX6_readItem_X6_readPieceOf : GoodIn wsX6_readItem (wsV RX6 103 RX6 yX6_readPieceOf wsX6_readPieceOf) := goodIn_app (goodIn_of _ (by decide +kernel)) ggX6_readItem_X6_readPieceOf
set_option maxRecDepth 20000 in
theorem ggX6_readItem_X6_readDeedOf : GoodIn wsX6_readItem wsX6_readDeedOf := goodIn_r _ [38, 39, 14, 15, 16, 17, 5, 18, 1, 2, 3, 4, 6, 7, 8, 19, 20, 21, 22, 23, 24, 25, 26, 27, 28, 40, 41, 42, 43, 44, 55, 56, 57, 58, 59, 60, 61, 62, 63, 64, 65, 66, 67, 68, 69, 70, 71, 72, 73, 74, 75, 76, 77, 78] (by decide +kernel) (by decide +kernel)
set_option maxRecDepth 20000 in
theorem gX6_readItem_X6_readDeedOf : GoodIn wsX6_readItem (wsV RX6 107 RX6 yX6_readDeedOf wsX6_readDeedOf) := goodIn_app (goodIn_of _ (by decide +kernel)) ggX6_readItem_X6_readDeedOf
set_option maxRecDepth 20000 in
theorem ggX6_readItem_X6_readCoinsOf : GoodIn wsX6_readItem wsX6_readCoinsOf := goodIn_r _ [48, 14, 49, 15, 16, 17, 5, 18, 1, 2, 3, 4, 6, 7, 8, 19, 20, 21, 22, 23, 24, 55, 56, 57, 58, 59, 60, 61, 62, 63, 64, 65, 66, 67, 68, 69, 70, 71, 72, 73, 74, 75, 76, 77, 78] (by decide +kernel) (by decide +kernel)
set_option maxRecDepth 20000 in
theorem gX6_readItem_X6_readCoinsOf : GoodIn wsX6_readItem (wsV RX6 110 RX6 yX6_readCoinsOf wsX6_readCoinsOf) := goodIn_app (goodIn_of _ (by decide +kernel)) ggX6_readItem_X6_readCoinsOf
set_option maxRecDepth 20000 in
theorem ggX6_readItem_X6_readLawOf : GoodIn wsX6_readItem wsX6_readLawOf := goodIn_r _ [53, 54, 14, 15, 16, 17, 5, 18, 1, 2, 3, 4, 6, 7, 8, 19, 20, 21, 22, 23, 24, 25, 26, 27, 28, 55, 56, 57, 58, 59, 60, 61, 62, 63, 64, 65, 66, 67, 68, 69, 70, 71, 72, 73, 74, 75, 76, 77, 78] (by decide +kernel) (by decide +kernel)
set_option maxRecDepth 20000 in
theorem gX6_readItem_X6_readLawOf : GoodIn wsX6_readItem (wsV RX6 113 RX6 yX6_readLawOf wsX6_readLawOf) := goodIn_app (goodIn_of _ (by decide +kernel)) ggX6_readItem_X6_readLawOf
theorem dX6_readItem_0 : decode cX6_readItem 0 = .ok (.aload_n 0, 1) := by decide +kernel
theorem dX6_readItem_1 : decode cX6_readItem 1 = .ok (.aload_n 0, 1) := by decide +kernel
theorem dX6_readItem_2 : decode cX6_readItem 2 = .ok (.getfield 86, 3) := by decide +kernel
theorem dX6_readItem_5 : decode cX6_readItem 5 = .ok (.invokevirtual 89, 3) := by decide +kernel
theorem dX6_readItem_8 : decode cX6_readItem 8 = .ok (.istore_n 1, 1) := by decide +kernel
theorem dX6_readItem_9 : decode cX6_readItem 9 = .ok (.aload_n 0, 1) := by decide +kernel
theorem dX6_readItem_10 : decode cX6_readItem 10 = .ok (.dup, 1) := by decide +kernel
theorem dX6_readItem_11 : decode cX6_readItem 11 = .ok (.getfield 86, 3) := by decide +kernel
theorem dX6_readItem_14 : decode cX6_readItem 14 = .ok (.iconst 1, 1) := by decide +kernel
theorem dX6_readItem_15 : decode cX6_readItem 15 = .ok (.iadd, 1) := by decide +kernel
theorem dX6_readItem_16 : decode cX6_readItem 16 = .ok (.putfield 86, 3) := by decide +kernel
theorem dX6_readItem_19 : decode cX6_readItem 19 = .ok (.iload_n 1, 1) := by decide +kernel
theorem dX6_readItem_20 : decode cX6_readItem 20 = .ok (.lookupswitch 64 #[(100, 49), (108, 59), (109, 54), (112, 44)], 44) := by decide +kernel
theorem dX6_readItem_64 : decode cX6_readItem 64 = .ok (.aload_n 0, 1) := by decide +kernel
theorem dX6_readItem_65 : decode cX6_readItem 65 = .ok (.invokevirtual 103, 3) := by decide +kernel
theorem dX6_readItem_68 : decode cX6_readItem 68 = .ok (.ireturn, 1) := by decide +kernel
theorem dX6_readItem_69 : decode cX6_readItem 69 = .ok (.aload_n 0, 1) := by decide +kernel
theorem dX6_readItem_70 : decode cX6_readItem 70 = .ok (.invokevirtual 107, 3) := by decide +kernel
theorem dX6_readItem_73 : decode cX6_readItem 73 = .ok (.ireturn, 1) := by decide +kernel
theorem dX6_readItem_74 : decode cX6_readItem 74 = .ok (.aload_n 0, 1) := by decide +kernel
theorem dX6_readItem_75 : decode cX6_readItem 75 = .ok (.invokevirtual 110, 3) := by decide +kernel
theorem dX6_readItem_78 : decode cX6_readItem 78 = .ok (.ireturn, 1) := by decide +kernel
theorem dX6_readItem_79 : decode cX6_readItem 79 = .ok (.aload_n 0, 1) := by decide +kernel
theorem dX6_readItem_80 : decode cX6_readItem 80 = .ok (.invokevirtual 113, 3) := by decide +kernel
theorem dX6_readItem_83 : decode cX6_readItem 83 = .ok (.ireturn, 1) := by decide +kernel
theorem dX6_readItem_84 : decode cX6_readItem 84 = .ok (.iconst 0, 1) := by decide +kernel
theorem dX6_readItem_85 : decode cX6_readItem 85 = .ok (.ireturn, 1) := by decide +kernel
set_option maxRecDepth 20000 in
theorem ggX6_fault_X6_clearTold : GoodIn wsX6_fault wsX6_clearTold := goodIn_r _ [7, 8, 9, 10, 11, 63, 64, 65, 66, 67, 68, 69, 70, 71, 72, 73, 74, 75, 76, 77, 78, 79, 80, 81, 82, 83, 84, 85, 86] (by decide +kernel) (by decide +kernel)
set_option maxRecDepth 20000 in
theorem gX6_fault_X6_clearTold : GoodIn wsX6_fault (wsV RX6 46 RX6 yX6_clearTold wsX6_clearTold) := goodIn_app (goodIn_of _ (by decide +kernel)) ggX6_fault_X6_clearTold
set_option maxRecDepth 20000 in
theorem ggX6_fault_X6_readItem : GoodIn wsX6_fault wsX6_readItem := goodIn_r _ [15, 1, 16, 17, 18, 6, 19, 2, 20, 21, 22, 23, 24, 8, 25, 26, 27, 28, 29, 30, 31, 32, 33, 34, 35, 36, 37, 38, 39, 40, 41, 42, 43, 44, 45, 46, 47, 48, 49, 9, 50, 51, 52, 53, 54, 55, 56, 57, 58, 10, 59, 60, 61, 62, 11, 63, 64, 65, 66, 67, 68, 69, 70, 71, 72, 73, 74, 75, 76, 77, 78, 79, 80, 81, 82, 83, 84, 85, 86] (by decide +kernel) (by decide +kernel)
set_option maxRecDepth 20000 in
theorem gX6_fault_X6_readItem : GoodIn wsX6_fault (wsV RX6 116 RX6 yX6_readItem wsX6_readItem) := goodIn_app (goodIn_of _ (by decide +kernel)) ggX6_fault_X6_readItem
theorem dX6_fault_0 : decode cX6_fault 0 = .ok (.aload_n 0, 1) := by decide +kernel
theorem dX6_fault_1 : decode cX6_fault 1 = .ok (.iconst 0, 1) := by decide +kernel
theorem dX6_fault_2 : decode cX6_fault 2 = .ok (.putfield 86, 3) := by decide +kernel
theorem dX6_fault_5 : decode cX6_fault 5 = .ok (.aload_n 0, 1) := by decide +kernel
theorem dX6_fault_6 : decode cX6_fault 6 = .ok (.invokevirtual 46, 3) := by decide +kernel
theorem dX6_fault_9 : decode cX6_fault 9 = .ok (.aload_n 0, 1) := by decide +kernel
theorem dX6_fault_10 : decode cX6_fault 10 = .ok (.getfield 86, 3) := by decide +kernel
theorem dX6_fault_13 : decode cX6_fault 13 = .ok (.aload_n 0, 1) := by decide +kernel
theorem dX6_fault_14 : decode cX6_fault 14 = .ok (.getfield 83, 3) := by decide +kernel
theorem dX6_fault_17 : decode cX6_fault 17 = .ok (.if_icmp .ge 20, 3) := by decide +kernel
theorem dX6_fault_20 : decode cX6_fault 20 = .ok (.aload_n 0, 1) := by decide +kernel
theorem dX6_fault_21 : decode cX6_fault 21 = .ok (.getfield 86, 3) := by decide +kernel
theorem dX6_fault_24 : decode cX6_fault 24 = .ok (.istore_n 1, 1) := by decide +kernel
theorem dX6_fault_25 : decode cX6_fault 25 = .ok (.aload_n 0, 1) := by decide +kernel
theorem dX6_fault_26 : decode cX6_fault 26 = .ok (.invokevirtual 116, 3) := by decide +kernel
theorem dX6_fault_29 : decode cX6_fault 29 = .ok (.ifCond .ne 5, 3) := by decide +kernel
theorem dX6_fault_32 : decode cX6_fault 32 = .ok (.iload_n 1, 1) := by decide +kernel
theorem dX6_fault_33 : decode cX6_fault 33 = .ok (.ireturn, 1) := by decide +kernel
theorem dX6_fault_34 : decode cX6_fault 34 = .ok (.goto (-25), 3) := by decide +kernel
theorem dX6_fault_37 : decode cX6_fault 37 = .ok (.bipush (-4), 2) := by decide +kernel
theorem dX6_fault_39 : decode cX6_fault 39 = .ok (.ireturn, 1) := by decide +kernel
set_option maxRecDepth 20000 in
theorem ggX6_lay_X6_fault : GoodIn wsX6_lay wsX6_fault := goodIn_r _ [7, 8, 9, 10, 11, 12, 6, 13, 1, 14, 15, 16, 17, 18, 19, 20, 21, 22, 23, 24, 25, 26, 27, 28, 29, 30, 31, 32, 33, 34, 35, 36, 37, 38, 39, 40, 41, 42, 43, 44, 45, 46, 47, 48, 49, 50, 51, 52, 53, 54, 55, 56, 57, 58, 59, 60, 61, 62, 63, 64, 65, 66, 67, 83, 84, 85, 86, 87, 88, 89, 90, 91, 92, 93, 94, 95, 96, 97, 98, 99, 100, 101, 102, 103, 104, 105, 106] (by decide +kernel) (by decide +kernel)
set_option maxRecDepth 20000 in
theorem gX6_lay_X6_fault : GoodIn wsX6_lay (wsV RX6 119 RX6 yX6_fault wsX6_fault) := goodIn_app (goodIn_of _ (by decide +kernel)) ggX6_lay_X6_fault
set_option maxRecDepth 20000 in
theorem ggX6_lay_X6_settles : GoodIn wsX6_lay wsX6_settles := goodIn_r _ [71, 1, 2, 72, 49, 14, 73, 74, 59, 16, 75, 76, 15, 50, 77, 78, 79, 80, 81, 6, 82, 83, 84, 85, 86, 87, 88, 89, 90, 91, 92, 93, 94, 95, 96, 97, 98, 99, 100, 101, 102, 103, 104, 105, 106] (by decide +kernel) (by decide +kernel)
set_option maxRecDepth 20000 in
theorem gX6_lay_X6_settles : GoodIn wsX6_lay (wsV RX6 64 RX6 yX6_settles wsX6_settles) := goodIn_app (goodIn_of _ (by decide +kernel)) ggX6_lay_X6_settles
theorem dX6_lay_0 : decode cX6_lay 0 = .ok (.aload_n 0, 1) := by decide +kernel
theorem dX6_lay_1 : decode cX6_lay 1 = .ok (.invokevirtual 119, 3) := by decide +kernel
theorem dX6_lay_4 : decode cX6_lay 4 = .ok (.bipush (-4), 2) := by decide +kernel
theorem dX6_lay_6 : decode cX6_lay 6 = .ok (.if_icmp .ne 10, 3) := by decide +kernel
theorem dX6_lay_9 : decode cX6_lay 9 = .ok (.aload_n 0, 1) := by decide +kernel
theorem dX6_lay_10 : decode cX6_lay 10 = .ok (.getfield 67, 3) := by decide +kernel
theorem dX6_lay_13 : decode cX6_lay 13 = .ok (.ifCond .ne 6, 3) := by decide +kernel
theorem dX6_lay_16 : decode cX6_lay 16 = .ok (.bipush (-2), 2) := by decide +kernel
theorem dX6_lay_18 : decode cX6_lay 18 = .ok (.ireturn, 1) := by decide +kernel
theorem dX6_lay_19 : decode cX6_lay 19 = .ok (.aload_n 0, 1) := by decide +kernel
theorem dX6_lay_20 : decode cX6_lay 20 = .ok (.invokevirtual 64, 3) := by decide +kernel
theorem dX6_lay_23 : decode cX6_lay 23 = .ok (.aload_n 0, 1) := by decide +kernel
theorem dX6_lay_24 : decode cX6_lay 24 = .ok (.getfield 73, 3) := by decide +kernel
theorem dX6_lay_27 : decode cX6_lay 27 = .ok (.ireturn, 1) := by decide +kernel
theorem dX6_copies_0 : decode cX6_copies 0 = .ok (.iconst 0, 1) := by decide +kernel
theorem dX6_copies_1 : decode cX6_copies 1 = .ok (.istore 5, 2) := by decide +kernel
theorem dX6_copies_3 : decode cX6_copies 3 = .ok (.iload 5, 2) := by decide +kernel
theorem dX6_copies_5 : decode cX6_copies 5 = .ok (.iload 4, 2) := by decide +kernel
theorem dX6_copies_7 : decode cX6_copies 7 = .ok (.if_icmp .ge 21, 3) := by decide +kernel
theorem dX6_copies_10 : decode cX6_copies 10 = .ok (.aload_n 0, 1) := by decide +kernel
theorem dX6_copies_11 : decode cX6_copies 11 = .ok (.iload_n 1, 1) := by decide +kernel
theorem dX6_copies_12 : decode cX6_copies 12 = .ok (.iload 5, 2) := by decide +kernel
theorem dX6_copies_14 : decode cX6_copies 14 = .ok (.iadd, 1) := by decide +kernel
theorem dX6_copies_15 : decode cX6_copies 15 = .ok (.aload_n 2, 1) := by decide +kernel
theorem dX6_copies_16 : decode cX6_copies 16 = .ok (.iload_n 3, 1) := by decide +kernel
theorem dX6_copies_17 : decode cX6_copies 17 = .ok (.iload 5, 2) := by decide +kernel
theorem dX6_copies_19 : decode cX6_copies 19 = .ok (.iadd, 1) := by decide +kernel
theorem dX6_copies_20 : decode cX6_copies 20 = .ok (.iaload, 1) := by decide +kernel
theorem dX6_copies_21 : decode cX6_copies 21 = .ok (.iastore, 1) := by decide +kernel
theorem dX6_copies_22 : decode cX6_copies 22 = .ok (.iinc 5 1, 3) := by decide +kernel
theorem dX6_copies_25 : decode cX6_copies 25 = .ok (.goto (-22), 3) := by decide +kernel
theorem dX6_copies_28 : decode cX6_copies 28 = .ok (.return_, 1) := by decide +kernel
set_option maxRecDepth 20000 in
theorem ggX6_settles_X6_copies : GoodIn wsX6_settles wsX6_copies := goodIn_r _ [20] (by decide +kernel) (by decide +kernel)
set_option maxRecDepth 20000 in
theorem gX6_settles_X6_copies : GoodIn wsX6_settles (va_wsS RX6 123 yX6_copies wsX6_copies) := goodIn_app (goodIn_of _ (by decide +kernel)) ggX6_settles_X6_copies
theorem dX6_settles_0 : decode cX6_settles 0 = .ok (.aload_n 0, 1) := by decide +kernel
theorem dX6_settles_1 : decode cX6_settles 1 = .ok (.aload_n 0, 1) := by decide +kernel
theorem dX6_settles_2 : decode cX6_settles 2 = .ok (.getfield 67, 3) := by decide +kernel
theorem dX6_settles_5 : decode cX6_settles 5 = .ok (.putfield 73, 3) := by decide +kernel
theorem dX6_settles_8 : decode cX6_settles 8 = .ok (.aload_n 0, 1) := by decide +kernel
theorem dX6_settles_9 : decode cX6_settles 9 = .ok (.getfield 7, 3) := by decide +kernel
theorem dX6_settles_12 : decode cX6_settles 12 = .ok (.iconst 0, 1) := by decide +kernel
theorem dX6_settles_13 : decode cX6_settles 13 = .ok (.aload_n 0, 1) := by decide +kernel
theorem dX6_settles_14 : decode cX6_settles 14 = .ok (.getfield 34, 3) := by decide +kernel
theorem dX6_settles_17 : decode cX6_settles 17 = .ok (.iconst 0, 1) := by decide +kernel
theorem dX6_settles_18 : decode cX6_settles 18 = .ok (.bipush 16, 2) := by decide +kernel
theorem dX6_settles_20 : decode cX6_settles 20 = .ok (.invokestatic 123, 3) := by decide +kernel
theorem dX6_settles_23 : decode cX6_settles 23 = .ok (.aload_n 0, 1) := by decide +kernel
theorem dX6_settles_24 : decode cX6_settles 24 = .ok (.aload_n 0, 1) := by decide +kernel
theorem dX6_settles_25 : decode cX6_settles 25 = .ok (.getfield 70, 3) := by decide +kernel
theorem dX6_settles_28 : decode cX6_settles 28 = .ok (.putfield 80, 3) := by decide +kernel
theorem dX6_settles_31 : decode cX6_settles 31 = .ok (.aload_n 0, 1) := by decide +kernel
theorem dX6_settles_32 : decode cX6_settles 32 = .ok (.getfield 13, 3) := by decide +kernel
theorem dX6_settles_35 : decode cX6_settles 35 = .ok (.iconst 0, 1) := by decide +kernel
theorem dX6_settles_36 : decode cX6_settles 36 = .ok (.aload_n 0, 1) := by decide +kernel
theorem dX6_settles_37 : decode cX6_settles 37 = .ok (.getfield 40, 3) := by decide +kernel
theorem dX6_settles_40 : decode cX6_settles 40 = .ok (.iconst 0, 1) := by decide +kernel
theorem dX6_settles_41 : decode cX6_settles 41 = .ok (.bipush 40, 2) := by decide +kernel
theorem dX6_settles_43 : decode cX6_settles 43 = .ok (.invokestatic 123, 3) := by decide +kernel
theorem dX6_settles_46 : decode cX6_settles 46 = .ok (.aload_n 0, 1) := by decide +kernel
theorem dX6_settles_47 : decode cX6_settles 47 = .ok (.aload_n 0, 1) := by decide +kernel
theorem dX6_settles_48 : decode cX6_settles 48 = .ok (.getfield 61, 3) := by decide +kernel
theorem dX6_settles_51 : decode cX6_settles 51 = .ok (.putfield 127, 3) := by decide +kernel
theorem dX6_settles_54 : decode cX6_settles 54 = .ok (.iconst 0, 1) := by decide +kernel
theorem dX6_settles_55 : decode cX6_settles 55 = .ok (.istore_n 1, 1) := by decide +kernel
theorem dX6_settles_56 : decode cX6_settles 56 = .ok (.iload_n 1, 1) := by decide +kernel
theorem dX6_settles_57 : decode cX6_settles 57 = .ok (.bipush 18, 2) := by decide +kernel
theorem dX6_settles_59 : decode cX6_settles 59 = .ok (.if_icmp .ge 16, 3) := by decide +kernel
theorem dX6_settles_62 : decode cX6_settles 62 = .ok (.aload_n 0, 1) := by decide +kernel
theorem dX6_settles_63 : decode cX6_settles 63 = .ok (.getfield 16, 3) := by decide +kernel
theorem dX6_settles_66 : decode cX6_settles 66 = .ok (.iload_n 1, 1) := by decide +kernel
theorem dX6_settles_67 : decode cX6_settles 67 = .ok (.iconst 0, 1) := by decide +kernel
theorem dX6_settles_68 : decode cX6_settles 68 = .ok (.iastore, 1) := by decide +kernel
theorem dX6_settles_69 : decode cX6_settles 69 = .ok (.iinc 1 1, 3) := by decide +kernel
theorem dX6_settles_72 : decode cX6_settles 72 = .ok (.goto (-16), 3) := by decide +kernel
theorem dX6_settles_75 : decode cX6_settles 75 = .ok (.aload_n 0, 1) := by decide +kernel
theorem dX6_settles_76 : decode cX6_settles 76 = .ok (.getfield 16, 3) := by decide +kernel
theorem dX6_settles_79 : decode cX6_settles 79 = .ok (.iconst 0, 1) := by decide +kernel
theorem dX6_settles_80 : decode cX6_settles 80 = .ok (.aload_n 0, 1) := by decide +kernel
theorem dX6_settles_81 : decode cX6_settles 81 = .ok (.getfield 57, 3) := by decide +kernel
theorem dX6_settles_84 : decode cX6_settles 84 = .ok (.iastore, 1) := by decide +kernel
theorem dX6_settles_85 : decode cX6_settles 85 = .ok (.aload_n 0, 1) := by decide +kernel
theorem dX6_settles_86 : decode cX6_settles 86 = .ok (.getfield 16, 3) := by decide +kernel
theorem dX6_settles_89 : decode cX6_settles 89 = .ok (.iconst 2, 1) := by decide +kernel
theorem dX6_settles_90 : decode cX6_settles 90 = .ok (.aload_n 0, 1) := by decide +kernel
theorem dX6_settles_91 : decode cX6_settles 91 = .ok (.getfield 37, 3) := by decide +kernel
theorem dX6_settles_94 : decode cX6_settles 94 = .ok (.iconst 0, 1) := by decide +kernel
theorem dX6_settles_95 : decode cX6_settles 95 = .ok (.aload_n 0, 1) := by decide +kernel
theorem dX6_settles_96 : decode cX6_settles 96 = .ok (.getfield 73, 3) := by decide +kernel
theorem dX6_settles_99 : decode cX6_settles 99 = .ok (.invokestatic 123, 3) := by decide +kernel
theorem dX6_settles_102 : decode cX6_settles 102 = .ok (.aload_n 0, 1) := by decide +kernel
theorem dX6_settles_103 : decode cX6_settles 103 = .ok (.iconst 0, 1) := by decide +kernel
theorem dX6_settles_104 : decode cX6_settles 104 = .ok (.putfield 130, 3) := by decide +kernel
theorem dX6_settles_107 : decode cX6_settles 107 = .ok (.aload_n 0, 1) := by decide +kernel
theorem dX6_settles_108 : decode cX6_settles 108 = .ok (.iconst 0, 1) := by decide +kernel
theorem dX6_settles_109 : decode cX6_settles 109 = .ok (.putfield 133, 3) := by decide +kernel
theorem dX6_settles_112 : decode cX6_settles 112 = .ok (.aload_n 0, 1) := by decide +kernel
theorem dX6_settles_113 : decode cX6_settles 113 = .ok (.iconst 0, 1) := by decide +kernel
theorem dX6_settles_114 : decode cX6_settles 114 = .ok (.putfield 136, 3) := by decide +kernel
theorem dX6_settles_117 : decode cX6_settles 117 = .ok (.return_, 1) := by decide +kernel
set_option maxRecDepth 20000 in
theorem ggX6_asItIs_X6_copies : GoodIn wsX6_asItIs wsX6_copies := goodIn_r _ [6] (by decide +kernel) (by decide +kernel)
set_option maxRecDepth 20000 in
theorem gX6_asItIs_X6_copies : GoodIn wsX6_asItIs (va_wsS RX6 123 yX6_copies wsX6_copies) := goodIn_app (goodIn_of _ (by decide +kernel)) ggX6_asItIs_X6_copies
theorem dX6_asItIs_0 : decode cX6_asItIs 0 = .ok (.aload_n 0, 1) := by decide +kernel
theorem dX6_asItIs_1 : decode cX6_asItIs 1 = .ok (.getfield 43, 3) := by decide +kernel
theorem dX6_asItIs_4 : decode cX6_asItIs 4 = .ok (.iconst 0, 1) := by decide +kernel
theorem dX6_asItIs_5 : decode cX6_asItIs 5 = .ok (.aload_n 0, 1) := by decide +kernel
theorem dX6_asItIs_6 : decode cX6_asItIs 6 = .ok (.getfield 16, 3) := by decide +kernel
theorem dX6_asItIs_9 : decode cX6_asItIs 9 = .ok (.iconst 0, 1) := by decide +kernel
theorem dX6_asItIs_10 : decode cX6_asItIs 10 = .ok (.bipush 18, 2) := by decide +kernel
theorem dX6_asItIs_12 : decode cX6_asItIs 12 = .ok (.invokestatic 123, 3) := by decide +kernel
theorem dX6_asItIs_15 : decode cX6_asItIs 15 = .ok (.return_, 1) := by decide +kernel
theorem dX6_roomOf_0 : decode cX6_roomOf 0 = .ok (.aload_n 0, 1) := by decide +kernel
theorem dX6_roomOf_1 : decode cX6_roomOf 1 = .ok (.getfield 13, 3) := by decide +kernel
theorem dX6_roomOf_4 : decode cX6_roomOf 4 = .ok (.iconst 4, 1) := by decide +kernel
theorem dX6_roomOf_5 : decode cX6_roomOf 5 = .ok (.iload_n 1, 1) := by decide +kernel
theorem dX6_roomOf_6 : decode cX6_roomOf 6 = .ok (.imul, 1) := by decide +kernel
theorem dX6_roomOf_7 : decode cX6_roomOf 7 = .ok (.iconst 1, 1) := by decide +kernel
theorem dX6_roomOf_8 : decode cX6_roomOf 8 = .ok (.iadd, 1) := by decide +kernel
theorem dX6_roomOf_9 : decode cX6_roomOf 9 = .ok (.iaload, 1) := by decide +kernel
theorem dX6_roomOf_10 : decode cX6_roomOf 10 = .ok (.ireturn, 1) := by decide +kernel
theorem dX6_hourOf_0 : decode cX6_hourOf 0 = .ok (.aload_n 0, 1) := by decide +kernel
theorem dX6_hourOf_1 : decode cX6_hourOf 1 = .ok (.getfield 13, 3) := by decide +kernel
theorem dX6_hourOf_4 : decode cX6_hourOf 4 = .ok (.iconst 4, 1) := by decide +kernel
theorem dX6_hourOf_5 : decode cX6_hourOf 5 = .ok (.iload_n 1, 1) := by decide +kernel
theorem dX6_hourOf_6 : decode cX6_hourOf 6 = .ok (.imul, 1) := by decide +kernel
theorem dX6_hourOf_7 : decode cX6_hourOf 7 = .ok (.iconst 2, 1) := by decide +kernel
theorem dX6_hourOf_8 : decode cX6_hourOf 8 = .ok (.iadd, 1) := by decide +kernel
theorem dX6_hourOf_9 : decode cX6_hourOf 9 = .ok (.iaload, 1) := by decide +kernel
theorem dX6_hourOf_10 : decode cX6_hourOf 10 = .ok (.ireturn, 1) := by decide +kernel
theorem dX6_weighs_0 : decode cX6_weighs 0 = .ok (.aload_n 0, 1) := by decide +kernel
theorem dX6_weighs_1 : decode cX6_weighs 1 = .ok (.getfield 13, 3) := by decide +kernel
theorem dX6_weighs_4 : decode cX6_weighs 4 = .ok (.iconst 4, 1) := by decide +kernel
theorem dX6_weighs_5 : decode cX6_weighs 5 = .ok (.iload_n 1, 1) := by decide +kernel
theorem dX6_weighs_6 : decode cX6_weighs 6 = .ok (.imul, 1) := by decide +kernel
theorem dX6_weighs_7 : decode cX6_weighs 7 = .ok (.iconst 3, 1) := by decide +kernel
theorem dX6_weighs_8 : decode cX6_weighs 8 = .ok (.iadd, 1) := by decide +kernel
theorem dX6_weighs_9 : decode cX6_weighs 9 = .ok (.iaload, 1) := by decide +kernel
theorem dX6_weighs_10 : decode cX6_weighs 10 = .ok (.ireturn, 1) := by decide +kernel
set_option maxRecDepth 20000 in
theorem ggX6_laterThan_X6_hourOf : GoodIn wsX6_laterThan wsX6_hourOf := goodIn_r _ [5, 6, 11, 12, 13, 14, 15, 16, 17, 18, 19, 20, 21, 22, 23, 24, 25, 26, 27, 28, 29, 30, 31, 32, 33, 34] (by decide +kernel) (by decide +kernel)
set_option maxRecDepth 20000 in
theorem gX6_laterThan_X6_hourOf : GoodIn wsX6_laterThan (wsV RX6 139 RX6 yX6_hourOf wsX6_hourOf) := goodIn_app (goodIn_of _ (by decide +kernel)) ggX6_laterThan_X6_hourOf
set_option maxRecDepth 20000 in
theorem ggX6_laterThan_X6_roomOf : GoodIn wsX6_laterThan wsX6_roomOf := goodIn_r _ [10, 6, 11, 12, 13, 14, 15, 16, 17, 18, 19, 20, 21, 22, 23, 24, 25, 26, 27, 28, 29, 30, 31, 32, 33, 34] (by decide +kernel) (by decide +kernel)
set_option maxRecDepth 20000 in
theorem gX6_laterThan_X6_roomOf : GoodIn wsX6_laterThan (wsV RX6 142 RX6 yX6_roomOf wsX6_roomOf) := goodIn_app (goodIn_of _ (by decide +kernel)) ggX6_laterThan_X6_roomOf
theorem dX6_laterThan_0 : decode cX6_laterThan 0 = .ok (.iconst 0, 1) := by decide +kernel
theorem dX6_laterThan_1 : decode cX6_laterThan 1 = .ok (.istore_n 3, 1) := by decide +kernel
theorem dX6_laterThan_2 : decode cX6_laterThan 2 = .ok (.iconst 0, 1) := by decide +kernel
theorem dX6_laterThan_3 : decode cX6_laterThan 3 = .ok (.istore 4, 2) := by decide +kernel
theorem dX6_laterThan_5 : decode cX6_laterThan 5 = .ok (.iload 4, 2) := by decide +kernel
theorem dX6_laterThan_7 : decode cX6_laterThan 7 = .ok (.iload_n 2, 1) := by decide +kernel
theorem dX6_laterThan_8 : decode cX6_laterThan 8 = .ok (.if_icmp .ge 83, 3) := by decide +kernel
theorem dX6_laterThan_11 : decode cX6_laterThan 11 = .ok (.aload_n 0, 1) := by decide +kernel
theorem dX6_laterThan_12 : decode cX6_laterThan 12 = .ok (.iload 4, 2) := by decide +kernel
theorem dX6_laterThan_14 : decode cX6_laterThan 14 = .ok (.invokevirtual 139, 3) := by decide +kernel
theorem dX6_laterThan_17 : decode cX6_laterThan 17 = .ok (.aload_n 0, 1) := by decide +kernel
theorem dX6_laterThan_18 : decode cX6_laterThan 18 = .ok (.iload_n 1, 1) := by decide +kernel
theorem dX6_laterThan_19 : decode cX6_laterThan 19 = .ok (.invokevirtual 139, 3) := by decide +kernel
theorem dX6_laterThan_22 : decode cX6_laterThan 22 = .ok (.if_icmp .gt 23, 3) := by decide +kernel
theorem dX6_laterThan_25 : decode cX6_laterThan 25 = .ok (.aload_n 0, 1) := by decide +kernel
theorem dX6_laterThan_26 : decode cX6_laterThan 26 = .ok (.iload 4, 2) := by decide +kernel
theorem dX6_laterThan_28 : decode cX6_laterThan 28 = .ok (.invokevirtual 139, 3) := by decide +kernel
theorem dX6_laterThan_31 : decode cX6_laterThan 31 = .ok (.aload_n 0, 1) := by decide +kernel
theorem dX6_laterThan_32 : decode cX6_laterThan 32 = .ok (.iload_n 1, 1) := by decide +kernel
theorem dX6_laterThan_33 : decode cX6_laterThan 33 = .ok (.invokevirtual 139, 3) := by decide +kernel
theorem dX6_laterThan_36 : decode cX6_laterThan 36 = .ok (.if_icmp .ne 13, 3) := by decide +kernel
theorem dX6_laterThan_39 : decode cX6_laterThan 39 = .ok (.iload 4, 2) := by decide +kernel
theorem dX6_laterThan_41 : decode cX6_laterThan 41 = .ok (.iload_n 1, 1) := by decide +kernel
theorem dX6_laterThan_42 : decode cX6_laterThan 42 = .ok (.if_icmp .le 7, 3) := by decide +kernel
theorem dX6_laterThan_45 : decode cX6_laterThan 45 = .ok (.iconst 1, 1) := by decide +kernel
theorem dX6_laterThan_46 : decode cX6_laterThan 46 = .ok (.goto 4, 3) := by decide +kernel
theorem dX6_laterThan_49 : decode cX6_laterThan 49 = .ok (.iconst 0, 1) := by decide +kernel
theorem dX6_laterThan_50 : decode cX6_laterThan 50 = .ok (.istore 5, 2) := by decide +kernel
theorem dX6_laterThan_52 : decode cX6_laterThan 52 = .ok (.iload_n 3, 1) := by decide +kernel
theorem dX6_laterThan_53 : decode cX6_laterThan 53 = .ok (.iload 4, 2) := by decide +kernel
theorem dX6_laterThan_55 : decode cX6_laterThan 55 = .ok (.iload_n 1, 1) := by decide +kernel
theorem dX6_laterThan_56 : decode cX6_laterThan 56 = .ok (.if_icmp .eq 26, 3) := by decide +kernel
theorem dX6_laterThan_59 : decode cX6_laterThan 59 = .ok (.aload_n 0, 1) := by decide +kernel
theorem dX6_laterThan_60 : decode cX6_laterThan 60 = .ok (.iload 4, 2) := by decide +kernel
theorem dX6_laterThan_62 : decode cX6_laterThan 62 = .ok (.invokevirtual 142, 3) := by decide +kernel
theorem dX6_laterThan_65 : decode cX6_laterThan 65 = .ok (.aload_n 0, 1) := by decide +kernel
theorem dX6_laterThan_66 : decode cX6_laterThan 66 = .ok (.iload_n 1, 1) := by decide +kernel
theorem dX6_laterThan_67 : decode cX6_laterThan 67 = .ok (.invokevirtual 142, 3) := by decide +kernel
theorem dX6_laterThan_70 : decode cX6_laterThan 70 = .ok (.if_icmp .ne 12, 3) := by decide +kernel
theorem dX6_laterThan_73 : decode cX6_laterThan 73 = .ok (.iload 5, 2) := by decide +kernel
theorem dX6_laterThan_75 : decode cX6_laterThan 75 = .ok (.ifCond .eq 7, 3) := by decide +kernel
theorem dX6_laterThan_78 : decode cX6_laterThan 78 = .ok (.iconst 1, 1) := by decide +kernel
theorem dX6_laterThan_79 : decode cX6_laterThan 79 = .ok (.goto 4, 3) := by decide +kernel
theorem dX6_laterThan_82 : decode cX6_laterThan 82 = .ok (.iconst 0, 1) := by decide +kernel
theorem dX6_laterThan_83 : decode cX6_laterThan 83 = .ok (.iadd, 1) := by decide +kernel
theorem dX6_laterThan_84 : decode cX6_laterThan 84 = .ok (.istore_n 3, 1) := by decide +kernel
theorem dX6_laterThan_85 : decode cX6_laterThan 85 = .ok (.iinc 4 1, 3) := by decide +kernel
theorem dX6_laterThan_88 : decode cX6_laterThan 88 = .ok (.goto (-83), 3) := by decide +kernel
theorem dX6_laterThan_91 : decode cX6_laterThan 91 = .ok (.iload_n 3, 1) := by decide +kernel
theorem dX6_laterThan_92 : decode cX6_laterThan 92 = .ok (.ireturn, 1) := by decide +kernel
set_option maxRecDepth 20000 in
theorem ggX6_doesTell_X6_roomOf : GoodIn wsX6_doesTell wsX6_roomOf := goodIn_r _ [7, 8, 21, 22, 23, 24, 25, 26, 27, 28, 29, 30, 31, 32, 33, 34, 35, 36, 37, 38, 39, 40, 41, 42, 43, 44] (by decide +kernel) (by decide +kernel)
set_option maxRecDepth 20000 in
theorem gX6_doesTell_X6_roomOf : GoodIn wsX6_doesTell (wsV RX6 142 RX6 yX6_roomOf wsX6_roomOf) := goodIn_app (goodIn_of _ (by decide +kernel)) ggX6_doesTell_X6_roomOf
set_option maxRecDepth 20000 in
theorem ggX6_doesTell_X6_hourOf : GoodIn wsX6_doesTell wsX6_hourOf := goodIn_r _ [12, 8, 21, 22, 23, 24, 25, 26, 27, 28, 29, 30, 31, 32, 33, 34, 35, 36, 37, 38, 39, 40, 41, 42, 43, 44] (by decide +kernel) (by decide +kernel)
set_option maxRecDepth 20000 in
theorem gX6_doesTell_X6_hourOf : GoodIn wsX6_doesTell (wsV RX6 139 RX6 yX6_hourOf wsX6_hourOf) := goodIn_app (goodIn_of _ (by decide +kernel)) ggX6_doesTell_X6_hourOf
set_option maxRecDepth 20000 in
theorem ggX6_doesTell_X6_laterThan : GoodIn wsX6_doesTell wsX6_laterThan := goodIn_r _ [16, 9, 10, 11, 6, 12, 8, 3, 4, 5, 7, 21, 22, 23, 24, 25, 26, 27, 28, 29, 30, 31, 32, 33, 34, 35, 36, 37, 38, 39, 40, 41, 42, 43, 44] (by decide +kernel) (by decide +kernel)
set_option maxRecDepth 20000 in
theorem gX6_doesTell_X6_laterThan : GoodIn wsX6_doesTell (wsV RX6 145 RX6 yX6_laterThan wsX6_laterThan) := goodIn_app (goodIn_of _ (by decide +kernel)) ggX6_doesTell_X6_laterThan
set_option maxRecDepth 20000 in
theorem ggX6_doesTell_X6_weighs : GoodIn wsX6_doesTell wsX6_weighs := goodIn_r _ [20, 8, 21, 22, 23, 24, 25, 26, 27, 28, 29, 30, 31, 32, 33, 34, 35, 36, 37, 38, 39, 40, 41, 42, 43, 44] (by decide +kernel) (by decide +kernel)
set_option maxRecDepth 20000 in
theorem gX6_doesTell_X6_weighs : GoodIn wsX6_doesTell (wsV RX6 149 RX6 yX6_weighs wsX6_weighs) := goodIn_app (goodIn_of _ (by decide +kernel)) ggX6_doesTell_X6_weighs
theorem dX6_doesTell_0 : decode cX6_doesTell 0 = .ok (.aload_n 0, 1) := by decide +kernel
theorem dX6_doesTell_1 : decode cX6_doesTell 1 = .ok (.iload_n 2, 1) := by decide +kernel
theorem dX6_doesTell_2 : decode cX6_doesTell 2 = .ok (.invokevirtual 142, 3) := by decide +kernel
theorem dX6_doesTell_5 : decode cX6_doesTell 5 = .ok (.aload_n 0, 1) := by decide +kernel
theorem dX6_doesTell_6 : decode cX6_doesTell 6 = .ok (.getfield 43, 3) := by decide +kernel
theorem dX6_doesTell_9 : decode cX6_doesTell 9 = .ok (.iconst 2, 1) := by decide +kernel
theorem dX6_doesTell_10 : decode cX6_doesTell 10 = .ok (.iload_n 1, 1) := by decide +kernel
theorem dX6_doesTell_11 : decode cX6_doesTell 11 = .ok (.iadd, 1) := by decide +kernel
theorem dX6_doesTell_12 : decode cX6_doesTell 12 = .ok (.iaload, 1) := by decide +kernel
theorem dX6_doesTell_13 : decode cX6_doesTell 13 = .ok (.if_icmp .eq 5, 3) := by decide +kernel
theorem dX6_doesTell_16 : decode cX6_doesTell 16 = .ok (.iconst 0, 1) := by decide +kernel
theorem dX6_doesTell_17 : decode cX6_doesTell 17 = .ok (.ireturn, 1) := by decide +kernel
theorem dX6_doesTell_18 : decode cX6_doesTell 18 = .ok (.aload_n 0, 1) := by decide +kernel
theorem dX6_doesTell_19 : decode cX6_doesTell 19 = .ok (.getfield 7, 3) := by decide +kernel
theorem dX6_doesTell_22 : decode cX6_doesTell 22 = .ok (.iconst 2, 1) := by decide +kernel
theorem dX6_doesTell_23 : decode cX6_doesTell 23 = .ok (.iload_n 1, 1) := by decide +kernel
theorem dX6_doesTell_24 : decode cX6_doesTell 24 = .ok (.imul, 1) := by decide +kernel
theorem dX6_doesTell_25 : decode cX6_doesTell 25 = .ok (.iaload, 1) := by decide +kernel
theorem dX6_doesTell_26 : decode cX6_doesTell 26 = .ok (.tableswitch 84 1 3 #[26, 42, 58], 26) := by decide +kernel
theorem dX6_doesTell_52 : decode cX6_doesTell 52 = .ok (.aload_n 0, 1) := by decide +kernel
theorem dX6_doesTell_53 : decode cX6_doesTell 53 = .ok (.iload_n 2, 1) := by decide +kernel
theorem dX6_doesTell_54 : decode cX6_doesTell 54 = .ok (.invokevirtual 139, 3) := by decide +kernel
theorem dX6_doesTell_57 : decode cX6_doesTell 57 = .ok (.bipush 12, 2) := by decide +kernel
theorem dX6_doesTell_59 : decode cX6_doesTell 59 = .ok (.if_icmp .lt 7, 3) := by decide +kernel
theorem dX6_doesTell_62 : decode cX6_doesTell 62 = .ok (.iconst 1, 1) := by decide +kernel
theorem dX6_doesTell_63 : decode cX6_doesTell 63 = .ok (.goto 4, 3) := by decide +kernel
theorem dX6_doesTell_66 : decode cX6_doesTell 66 = .ok (.iconst 0, 1) := by decide +kernel
theorem dX6_doesTell_67 : decode cX6_doesTell 67 = .ok (.ireturn, 1) := by decide +kernel
theorem dX6_doesTell_68 : decode cX6_doesTell 68 = .ok (.aload_n 0, 1) := by decide +kernel
theorem dX6_doesTell_69 : decode cX6_doesTell 69 = .ok (.iload_n 2, 1) := by decide +kernel
theorem dX6_doesTell_70 : decode cX6_doesTell 70 = .ok (.iload_n 3, 1) := by decide +kernel
theorem dX6_doesTell_71 : decode cX6_doesTell 71 = .ok (.invokevirtual 145, 3) := by decide +kernel
theorem dX6_doesTell_74 : decode cX6_doesTell 74 = .ok (.iconst 2, 1) := by decide +kernel
theorem dX6_doesTell_75 : decode cX6_doesTell 75 = .ok (.if_icmp .ge 7, 3) := by decide +kernel
theorem dX6_doesTell_78 : decode cX6_doesTell 78 = .ok (.iconst 1, 1) := by decide +kernel
theorem dX6_doesTell_79 : decode cX6_doesTell 79 = .ok (.goto 4, 3) := by decide +kernel
theorem dX6_doesTell_82 : decode cX6_doesTell 82 = .ok (.iconst 0, 1) := by decide +kernel
theorem dX6_doesTell_83 : decode cX6_doesTell 83 = .ok (.ireturn, 1) := by decide +kernel
theorem dX6_doesTell_84 : decode cX6_doesTell 84 = .ok (.aload_n 0, 1) := by decide +kernel
theorem dX6_doesTell_85 : decode cX6_doesTell 85 = .ok (.iload_n 2, 1) := by decide +kernel
theorem dX6_doesTell_86 : decode cX6_doesTell 86 = .ok (.invokevirtual 139, 3) := by decide +kernel
theorem dX6_doesTell_89 : decode cX6_doesTell 89 = .ok (.bipush 12, 2) := by decide +kernel
theorem dX6_doesTell_91 : decode cX6_doesTell 91 = .ok (.if_icmp .ge 17, 3) := by decide +kernel
theorem dX6_doesTell_94 : decode cX6_doesTell 94 = .ok (.aload_n 0, 1) := by decide +kernel
theorem dX6_doesTell_95 : decode cX6_doesTell 95 = .ok (.iload_n 2, 1) := by decide +kernel
theorem dX6_doesTell_96 : decode cX6_doesTell 96 = .ok (.invokevirtual 149, 3) := by decide +kernel
theorem dX6_doesTell_99 : decode cX6_doesTell 99 = .ok (.bipush 10, 2) := by decide +kernel
theorem dX6_doesTell_101 : decode cX6_doesTell 101 = .ok (.if_icmp .gt 7, 3) := by decide +kernel
theorem dX6_doesTell_104 : decode cX6_doesTell 104 = .ok (.iconst 1, 1) := by decide +kernel
theorem dX6_doesTell_105 : decode cX6_doesTell 105 = .ok (.goto 4, 3) := by decide +kernel
theorem dX6_doesTell_108 : decode cX6_doesTell 108 = .ok (.iconst 0, 1) := by decide +kernel
theorem dX6_doesTell_109 : decode cX6_doesTell 109 = .ok (.ireturn, 1) := by decide +kernel
theorem dX6_doesTell_110 : decode cX6_doesTell 110 = .ok (.iconst 1, 1) := by decide +kernel
theorem dX6_doesTell_111 : decode cX6_doesTell 111 = .ok (.ireturn, 1) := by decide +kernel
set_option maxRecDepth 20000 in
theorem ggX6_toldBy_X6_doesTell : GoodIn wsX6_toldBy wsX6_doesTell := goodIn_r _ [6, 7, 8, 9, 10, 11, 5, 12, 13, 14, 15, 16, 17, 18, 19, 20, 21, 22, 23, 24, 25, 26, 27, 28, 29, 30, 31, 32, 33, 34, 35, 36, 37, 38, 39, 40, 41, 42, 43, 44, 45, 46, 47, 48, 49] (by decide +kernel) (by decide +kernel)
set_option maxRecDepth 20000 in
theorem gX6_toldBy_X6_doesTell : GoodIn wsX6_toldBy (wsV RX6 152 RX6 yX6_doesTell wsX6_doesTell) := goodIn_app (goodIn_of _ (by decide +kernel)) ggX6_toldBy_X6_doesTell
theorem dX6_toldBy_0 : decode cX6_toldBy 0 = .ok (.iconst 0, 1) := by decide +kernel
theorem dX6_toldBy_1 : decode cX6_toldBy 1 = .ok (.istore_n 2, 1) := by decide +kernel
theorem dX6_toldBy_2 : decode cX6_toldBy 2 = .ok (.iconst 0, 1) := by decide +kernel
theorem dX6_toldBy_3 : decode cX6_toldBy 3 = .ok (.istore_n 3, 1) := by decide +kernel
theorem dX6_toldBy_4 : decode cX6_toldBy 4 = .ok (.iload_n 3, 1) := by decide +kernel
theorem dX6_toldBy_5 : decode cX6_toldBy 5 = .ok (.aload_n 0, 1) := by decide +kernel
theorem dX6_toldBy_6 : decode cX6_toldBy 6 = .ok (.getfield 80, 3) := by decide +kernel
theorem dX6_toldBy_9 : decode cX6_toldBy 9 = .ok (.if_icmp .ge 32, 3) := by decide +kernel
theorem dX6_toldBy_12 : decode cX6_toldBy 12 = .ok (.iload_n 2, 1) := by decide +kernel
theorem dX6_toldBy_13 : decode cX6_toldBy 13 = .ok (.aload_n 0, 1) := by decide +kernel
theorem dX6_toldBy_14 : decode cX6_toldBy 14 = .ok (.iload_n 1, 1) := by decide +kernel
theorem dX6_toldBy_15 : decode cX6_toldBy 15 = .ok (.iload_n 3, 1) := by decide +kernel
theorem dX6_toldBy_16 : decode cX6_toldBy 16 = .ok (.aload_n 0, 1) := by decide +kernel
theorem dX6_toldBy_17 : decode cX6_toldBy 17 = .ok (.getfield 80, 3) := by decide +kernel
theorem dX6_toldBy_20 : decode cX6_toldBy 20 = .ok (.invokevirtual 152, 3) := by decide +kernel
theorem dX6_toldBy_23 : decode cX6_toldBy 23 = .ok (.ifCond .eq 9, 3) := by decide +kernel
theorem dX6_toldBy_26 : decode cX6_toldBy 26 = .ok (.iconst 1, 1) := by decide +kernel
theorem dX6_toldBy_27 : decode cX6_toldBy 27 = .ok (.iload_n 3, 1) := by decide +kernel
theorem dX6_toldBy_28 : decode cX6_toldBy 28 = .ok (.ishl, 1) := by decide +kernel
theorem dX6_toldBy_29 : decode cX6_toldBy 29 = .ok (.goto 4, 3) := by decide +kernel
theorem dX6_toldBy_32 : decode cX6_toldBy 32 = .ok (.iconst 0, 1) := by decide +kernel
theorem dX6_toldBy_33 : decode cX6_toldBy 33 = .ok (.ior, 1) := by decide +kernel
theorem dX6_toldBy_34 : decode cX6_toldBy 34 = .ok (.istore_n 2, 1) := by decide +kernel
theorem dX6_toldBy_35 : decode cX6_toldBy 35 = .ok (.iinc 3 1, 3) := by decide +kernel
theorem dX6_toldBy_38 : decode cX6_toldBy 38 = .ok (.goto (-34), 3) := by decide +kernel
theorem dX6_toldBy_41 : decode cX6_toldBy 41 = .ok (.iload_n 2, 1) := by decide +kernel
theorem dX6_toldBy_42 : decode cX6_toldBy 42 = .ok (.ireturn, 1) := by decide +kernel
set_option maxRecDepth 20000 in
theorem ggX6_isLoose_X6_has : GoodIn wsX6_isLoose wsX6_has := goodIn_r _ [7] (by decide +kernel) (by decide +kernel)
set_option maxRecDepth 20000 in
theorem gX6_isLoose_X6_has : GoodIn wsX6_isLoose (va_wsS RX6 155 yX6_has wsX6_has) := goodIn_app (goodIn_of _ (by decide +kernel)) ggX6_isLoose_X6_has
theorem dX6_isLoose_0 : decode cX6_isLoose 0 = .ok (.aload_n 0, 1) := by decide +kernel
theorem dX6_isLoose_1 : decode cX6_isLoose 1 = .ok (.getfield 43, 3) := by decide +kernel
theorem dX6_isLoose_4 : decode cX6_isLoose 4 = .ok (.bipush 10, 2) := by decide +kernel
theorem dX6_isLoose_6 : decode cX6_isLoose 6 = .ok (.iload_n 1, 1) := by decide +kernel
theorem dX6_isLoose_7 : decode cX6_isLoose 7 = .ok (.iadd, 1) := by decide +kernel
theorem dX6_isLoose_8 : decode cX6_isLoose 8 = .ok (.iaload, 1) := by decide +kernel
theorem dX6_isLoose_9 : decode cX6_isLoose 9 = .ok (.ifCond .ne 25, 3) := by decide +kernel
theorem dX6_isLoose_12 : decode cX6_isLoose 12 = .ok (.aload_n 0, 1) := by decide +kernel
theorem dX6_isLoose_13 : decode cX6_isLoose 13 = .ok (.getfield 127, 3) := by decide +kernel
theorem dX6_isLoose_16 : decode cX6_isLoose 16 = .ok (.aload_n 0, 1) := by decide +kernel
theorem dX6_isLoose_17 : decode cX6_isLoose 17 = .ok (.getfield 7, 3) := by decide +kernel
theorem dX6_isLoose_20 : decode cX6_isLoose 20 = .ok (.iconst 2, 1) := by decide +kernel
theorem dX6_isLoose_21 : decode cX6_isLoose 21 = .ok (.iload_n 1, 1) := by decide +kernel
theorem dX6_isLoose_22 : decode cX6_isLoose 22 = .ok (.imul, 1) := by decide +kernel
theorem dX6_isLoose_23 : decode cX6_isLoose 23 = .ok (.iaload, 1) := by decide +kernel
theorem dX6_isLoose_24 : decode cX6_isLoose 24 = .ok (.invokestatic 155, 3) := by decide +kernel
theorem dX6_isLoose_27 : decode cX6_isLoose 27 = .ok (.ifCond .ne 7, 3) := by decide +kernel
theorem dX6_isLoose_30 : decode cX6_isLoose 30 = .ok (.iconst 1, 1) := by decide +kernel
theorem dX6_isLoose_31 : decode cX6_isLoose 31 = .ok (.goto 4, 3) := by decide +kernel
theorem dX6_isLoose_34 : decode cX6_isLoose 34 = .ok (.iconst 0, 1) := by decide +kernel
theorem dX6_isLoose_35 : decode cX6_isLoose 35 = .ok (.ireturn, 1) := by decide +kernel
set_option maxRecDepth 20000 in
theorem ggX6_loose_X6_isLoose : GoodIn wsX6_loose wsX6_isLoose := goodIn_r _ [6, 7, 8, 9, 10, 11, 5, 12, 13, 14, 15, 16, 17, 18, 19, 20, 21, 22, 23, 24, 25, 26, 27, 28, 29, 30, 31, 32, 33, 34, 35, 36] (by decide +kernel) (by decide +kernel)
set_option maxRecDepth 20000 in
theorem gX6_loose_X6_isLoose : GoodIn wsX6_loose (wsV RX6 159 RX6 yX6_isLoose wsX6_isLoose) := goodIn_app (goodIn_of _ (by decide +kernel)) ggX6_loose_X6_isLoose
theorem dX6_loose_0 : decode cX6_loose 0 = .ok (.iconst 0, 1) := by decide +kernel
theorem dX6_loose_1 : decode cX6_loose 1 = .ok (.istore_n 1, 1) := by decide +kernel
theorem dX6_loose_2 : decode cX6_loose 2 = .ok (.iconst 0, 1) := by decide +kernel
theorem dX6_loose_3 : decode cX6_loose 3 = .ok (.istore_n 2, 1) := by decide +kernel
theorem dX6_loose_4 : decode cX6_loose 4 = .ok (.iload_n 2, 1) := by decide +kernel
theorem dX6_loose_5 : decode cX6_loose 5 = .ok (.aload_n 0, 1) := by decide +kernel
theorem dX6_loose_6 : decode cX6_loose 6 = .ok (.getfield 73, 3) := by decide +kernel
theorem dX6_loose_9 : decode cX6_loose 9 = .ok (.if_icmp .ge 27, 3) := by decide +kernel
theorem dX6_loose_12 : decode cX6_loose 12 = .ok (.iload_n 1, 1) := by decide +kernel
theorem dX6_loose_13 : decode cX6_loose 13 = .ok (.aload_n 0, 1) := by decide +kernel
theorem dX6_loose_14 : decode cX6_loose 14 = .ok (.iload_n 2, 1) := by decide +kernel
theorem dX6_loose_15 : decode cX6_loose 15 = .ok (.invokevirtual 159, 3) := by decide +kernel
theorem dX6_loose_18 : decode cX6_loose 18 = .ok (.ifCond .eq 9, 3) := by decide +kernel
theorem dX6_loose_21 : decode cX6_loose 21 = .ok (.iconst 1, 1) := by decide +kernel
theorem dX6_loose_22 : decode cX6_loose 22 = .ok (.iload_n 2, 1) := by decide +kernel
theorem dX6_loose_23 : decode cX6_loose 23 = .ok (.ishl, 1) := by decide +kernel
theorem dX6_loose_24 : decode cX6_loose 24 = .ok (.goto 4, 3) := by decide +kernel
theorem dX6_loose_27 : decode cX6_loose 27 = .ok (.iconst 0, 1) := by decide +kernel
theorem dX6_loose_28 : decode cX6_loose 28 = .ok (.ior, 1) := by decide +kernel
theorem dX6_loose_29 : decode cX6_loose 29 = .ok (.istore_n 1, 1) := by decide +kernel
theorem dX6_loose_30 : decode cX6_loose 30 = .ok (.iinc 2 1, 3) := by decide +kernel
theorem dX6_loose_33 : decode cX6_loose 33 = .ok (.goto (-29), 3) := by decide +kernel
theorem dX6_loose_36 : decode cX6_loose 36 = .ok (.iload_n 1, 1) := by decide +kernel
theorem dX6_loose_37 : decode cX6_loose 37 = .ok (.ireturn, 1) := by decide +kernel
set_option maxRecDepth 20000 in
theorem ggX6_tellers_X6_isLoose : GoodIn wsX6_tellers wsX6_isLoose := goodIn_r _ [7, 8, 9, 10, 11, 12, 6, 13, 35, 36, 37, 38, 39, 40, 41, 42, 43, 44, 45, 46, 47, 48, 49, 50, 51, 52, 53, 54, 55, 56, 57, 58] (by decide +kernel) (by decide +kernel)
set_option maxRecDepth 20000 in
theorem gX6_tellers_X6_isLoose : GoodIn wsX6_tellers (wsV RX6 159 RX6 yX6_isLoose wsX6_isLoose) := goodIn_app (goodIn_of _ (by decide +kernel)) ggX6_tellers_X6_isLoose
set_option maxRecDepth 20000 in
theorem ggX6_tellers_X6_doesTell : GoodIn wsX6_tellers wsX6_doesTell := goodIn_r _ [17, 8, 10, 18, 19, 20, 6, 21, 22, 23, 24, 25, 26, 27, 28, 29, 30, 31, 32, 33, 34, 35, 36, 37, 38, 39, 40, 41, 42, 43, 44, 45, 46, 47, 48, 49, 50, 51, 52, 53, 54, 55, 56, 57, 58] (by decide +kernel) (by decide +kernel)
set_option maxRecDepth 20000 in
theorem gX6_tellers_X6_doesTell : GoodIn wsX6_tellers (wsV RX6 152 RX6 yX6_doesTell wsX6_doesTell) := goodIn_app (goodIn_of _ (by decide +kernel)) ggX6_tellers_X6_doesTell
theorem dX6_tellers_0 : decode cX6_tellers 0 = .ok (.iconst 0, 1) := by decide +kernel
theorem dX6_tellers_1 : decode cX6_tellers 1 = .ok (.istore_n 2, 1) := by decide +kernel
theorem dX6_tellers_2 : decode cX6_tellers 2 = .ok (.iconst 0, 1) := by decide +kernel
theorem dX6_tellers_3 : decode cX6_tellers 3 = .ok (.istore_n 3, 1) := by decide +kernel
theorem dX6_tellers_4 : decode cX6_tellers 4 = .ok (.iload_n 3, 1) := by decide +kernel
theorem dX6_tellers_5 : decode cX6_tellers 5 = .ok (.aload_n 0, 1) := by decide +kernel
theorem dX6_tellers_6 : decode cX6_tellers 6 = .ok (.getfield 73, 3) := by decide +kernel
theorem dX6_tellers_9 : decode cX6_tellers 9 = .ok (.if_icmp .ge 40, 3) := by decide +kernel
theorem dX6_tellers_12 : decode cX6_tellers 12 = .ok (.iload_n 2, 1) := by decide +kernel
theorem dX6_tellers_13 : decode cX6_tellers 13 = .ok (.aload_n 0, 1) := by decide +kernel
theorem dX6_tellers_14 : decode cX6_tellers 14 = .ok (.iload_n 3, 1) := by decide +kernel
theorem dX6_tellers_15 : decode cX6_tellers 15 = .ok (.invokevirtual 159, 3) := by decide +kernel
theorem dX6_tellers_18 : decode cX6_tellers 18 = .ok (.ifCond .eq 22, 3) := by decide +kernel
theorem dX6_tellers_21 : decode cX6_tellers 21 = .ok (.aload_n 0, 1) := by decide +kernel
theorem dX6_tellers_22 : decode cX6_tellers 22 = .ok (.iload_n 3, 1) := by decide +kernel
theorem dX6_tellers_23 : decode cX6_tellers 23 = .ok (.iload_n 1, 1) := by decide +kernel
theorem dX6_tellers_24 : decode cX6_tellers 24 = .ok (.aload_n 0, 1) := by decide +kernel
theorem dX6_tellers_25 : decode cX6_tellers 25 = .ok (.getfield 80, 3) := by decide +kernel
theorem dX6_tellers_28 : decode cX6_tellers 28 = .ok (.invokevirtual 152, 3) := by decide +kernel
theorem dX6_tellers_31 : decode cX6_tellers 31 = .ok (.ifCond .eq 9, 3) := by decide +kernel
theorem dX6_tellers_34 : decode cX6_tellers 34 = .ok (.iconst 1, 1) := by decide +kernel
theorem dX6_tellers_35 : decode cX6_tellers 35 = .ok (.iload_n 3, 1) := by decide +kernel
theorem dX6_tellers_36 : decode cX6_tellers 36 = .ok (.ishl, 1) := by decide +kernel
theorem dX6_tellers_37 : decode cX6_tellers 37 = .ok (.goto 4, 3) := by decide +kernel
theorem dX6_tellers_40 : decode cX6_tellers 40 = .ok (.iconst 0, 1) := by decide +kernel
theorem dX6_tellers_41 : decode cX6_tellers 41 = .ok (.ior, 1) := by decide +kernel
theorem dX6_tellers_42 : decode cX6_tellers 42 = .ok (.istore_n 2, 1) := by decide +kernel
theorem dX6_tellers_43 : decode cX6_tellers 43 = .ok (.iinc 3 1, 3) := by decide +kernel
theorem dX6_tellers_46 : decode cX6_tellers 46 = .ok (.goto (-42), 3) := by decide +kernel
theorem dX6_tellers_49 : decode cX6_tellers 49 = .ok (.iload_n 2, 1) := by decide +kernel
theorem dX6_tellers_50 : decode cX6_tellers 50 = .ok (.ireturn, 1) := by decide +kernel
set_option maxRecDepth 20000 in
theorem ggX6_priceOf_X6_has : GoodIn wsX6_priceOf wsX6_has := goodIn_r _ [6] (by decide +kernel) (by decide +kernel)
set_option maxRecDepth 20000 in
theorem gX6_priceOf_X6_has : GoodIn wsX6_priceOf (va_wsS RX6 155 yX6_has wsX6_has) := goodIn_app (goodIn_of _ (by decide +kernel)) ggX6_priceOf_X6_has
theorem dX6_priceOf_0 : decode cX6_priceOf 0 = .ok (.iconst 0, 1) := by decide +kernel
theorem dX6_priceOf_1 : decode cX6_priceOf 1 = .ok (.istore_n 2, 1) := by decide +kernel
theorem dX6_priceOf_2 : decode cX6_priceOf 2 = .ok (.iconst 0, 1) := by decide +kernel
theorem dX6_priceOf_3 : decode cX6_priceOf 3 = .ok (.istore_n 3, 1) := by decide +kernel
theorem dX6_priceOf_4 : decode cX6_priceOf 4 = .ok (.iload_n 3, 1) := by decide +kernel
theorem dX6_priceOf_5 : decode cX6_priceOf 5 = .ok (.aload_n 0, 1) := by decide +kernel
theorem dX6_priceOf_6 : decode cX6_priceOf 6 = .ok (.getfield 73, 3) := by decide +kernel
theorem dX6_priceOf_9 : decode cX6_priceOf 9 = .ok (.if_icmp .ge 34, 3) := by decide +kernel
theorem dX6_priceOf_12 : decode cX6_priceOf 12 = .ok (.iload_n 2, 1) := by decide +kernel
theorem dX6_priceOf_13 : decode cX6_priceOf 13 = .ok (.iload_n 1, 1) := by decide +kernel
theorem dX6_priceOf_14 : decode cX6_priceOf 14 = .ok (.iload_n 3, 1) := by decide +kernel
theorem dX6_priceOf_15 : decode cX6_priceOf 15 = .ok (.invokestatic 155, 3) := by decide +kernel
theorem dX6_priceOf_18 : decode cX6_priceOf 18 = .ok (.ifCond .eq 16, 3) := by decide +kernel
theorem dX6_priceOf_21 : decode cX6_priceOf 21 = .ok (.aload_n 0, 1) := by decide +kernel
theorem dX6_priceOf_22 : decode cX6_priceOf 22 = .ok (.getfield 7, 3) := by decide +kernel
theorem dX6_priceOf_25 : decode cX6_priceOf 25 = .ok (.iconst 2, 1) := by decide +kernel
theorem dX6_priceOf_26 : decode cX6_priceOf 26 = .ok (.iload_n 3, 1) := by decide +kernel
theorem dX6_priceOf_27 : decode cX6_priceOf 27 = .ok (.imul, 1) := by decide +kernel
theorem dX6_priceOf_28 : decode cX6_priceOf 28 = .ok (.iconst 1, 1) := by decide +kernel
theorem dX6_priceOf_29 : decode cX6_priceOf 29 = .ok (.iadd, 1) := by decide +kernel
theorem dX6_priceOf_30 : decode cX6_priceOf 30 = .ok (.iaload, 1) := by decide +kernel
theorem dX6_priceOf_31 : decode cX6_priceOf 31 = .ok (.goto 4, 3) := by decide +kernel
theorem dX6_priceOf_34 : decode cX6_priceOf 34 = .ok (.iconst 0, 1) := by decide +kernel
theorem dX6_priceOf_35 : decode cX6_priceOf 35 = .ok (.iadd, 1) := by decide +kernel
theorem dX6_priceOf_36 : decode cX6_priceOf 36 = .ok (.istore_n 2, 1) := by decide +kernel
theorem dX6_priceOf_37 : decode cX6_priceOf 37 = .ok (.iinc 3 1, 3) := by decide +kernel
theorem dX6_priceOf_40 : decode cX6_priceOf 40 = .ok (.goto (-36), 3) := by decide +kernel
theorem dX6_priceOf_43 : decode cX6_priceOf 43 = .ok (.iload_n 2, 1) := by decide +kernel
theorem dX6_priceOf_44 : decode cX6_priceOf 44 = .ok (.ireturn, 1) := by decide +kernel
set_option maxRecDepth 20000 in
theorem ggX6_allWeigh_X6_has : GoodIn wsX6_allWeigh wsX6_has := goodIn_r _ [5] (by decide +kernel) (by decide +kernel)
set_option maxRecDepth 20000 in
theorem gX6_allWeigh_X6_has : GoodIn wsX6_allWeigh (va_wsS RX6 155 yX6_has wsX6_has) := goodIn_app (goodIn_of _ (by decide +kernel)) ggX6_allWeigh_X6_has
set_option maxRecDepth 20000 in
theorem ggX6_allWeigh_X6_weighs : GoodIn wsX6_allWeigh wsX6_weighs := goodIn_r _ [9, 10, 11, 12, 13, 14, 15, 16, 17, 18, 19, 20, 21, 22, 23, 24, 25, 26, 27, 28, 29, 30, 31, 32, 33, 34] (by decide +kernel) (by decide +kernel)
set_option maxRecDepth 20000 in
theorem gX6_allWeigh_X6_weighs : GoodIn wsX6_allWeigh (wsV RX6 149 RX6 yX6_weighs wsX6_weighs) := goodIn_app (goodIn_of _ (by decide +kernel)) ggX6_allWeigh_X6_weighs
theorem dX6_allWeigh_0 : decode cX6_allWeigh 0 = .ok (.iconst 0, 1) := by decide +kernel
theorem dX6_allWeigh_1 : decode cX6_allWeigh 1 = .ok (.istore_n 2, 1) := by decide +kernel
theorem dX6_allWeigh_2 : decode cX6_allWeigh 2 = .ok (.iconst 0, 1) := by decide +kernel
theorem dX6_allWeigh_3 : decode cX6_allWeigh 3 = .ok (.istore_n 3, 1) := by decide +kernel
theorem dX6_allWeigh_4 : decode cX6_allWeigh 4 = .ok (.iload_n 3, 1) := by decide +kernel
theorem dX6_allWeigh_5 : decode cX6_allWeigh 5 = .ok (.aload_n 0, 1) := by decide +kernel
theorem dX6_allWeigh_6 : decode cX6_allWeigh 6 = .ok (.getfield 80, 3) := by decide +kernel
theorem dX6_allWeigh_9 : decode cX6_allWeigh 9 = .ok (.if_icmp .ge 29, 3) := by decide +kernel
theorem dX6_allWeigh_12 : decode cX6_allWeigh 12 = .ok (.iload_n 2, 1) := by decide +kernel
theorem dX6_allWeigh_13 : decode cX6_allWeigh 13 = .ok (.iload_n 1, 1) := by decide +kernel
theorem dX6_allWeigh_14 : decode cX6_allWeigh 14 = .ok (.iload_n 3, 1) := by decide +kernel
theorem dX6_allWeigh_15 : decode cX6_allWeigh 15 = .ok (.invokestatic 155, 3) := by decide +kernel
theorem dX6_allWeigh_18 : decode cX6_allWeigh 18 = .ok (.ifCond .eq 11, 3) := by decide +kernel
theorem dX6_allWeigh_21 : decode cX6_allWeigh 21 = .ok (.aload_n 0, 1) := by decide +kernel
theorem dX6_allWeigh_22 : decode cX6_allWeigh 22 = .ok (.iload_n 3, 1) := by decide +kernel
theorem dX6_allWeigh_23 : decode cX6_allWeigh 23 = .ok (.invokevirtual 149, 3) := by decide +kernel
theorem dX6_allWeigh_26 : decode cX6_allWeigh 26 = .ok (.goto 4, 3) := by decide +kernel
theorem dX6_allWeigh_29 : decode cX6_allWeigh 29 = .ok (.iconst 0, 1) := by decide +kernel
theorem dX6_allWeigh_30 : decode cX6_allWeigh 30 = .ok (.iadd, 1) := by decide +kernel
theorem dX6_allWeigh_31 : decode cX6_allWeigh 31 = .ok (.istore_n 2, 1) := by decide +kernel
theorem dX6_allWeigh_32 : decode cX6_allWeigh 32 = .ok (.iinc 3 1, 3) := by decide +kernel
theorem dX6_allWeigh_35 : decode cX6_allWeigh 35 = .ok (.goto (-31), 3) := by decide +kernel
theorem dX6_allWeigh_38 : decode cX6_allWeigh 38 = .ok (.iload_n 2, 1) := by decide +kernel
theorem dX6_allWeigh_39 : decode cX6_allWeigh 39 = .ok (.ireturn, 1) := by decide +kernel
set_option maxRecDepth 20000 in
theorem ggX6_toldByAll_X6_has : GoodIn wsX6_toldByAll wsX6_has := goodIn_r _ [5] (by decide +kernel) (by decide +kernel)
set_option maxRecDepth 20000 in
theorem gX6_toldByAll_X6_has : GoodIn wsX6_toldByAll (va_wsS RX6 155 yX6_has wsX6_has) := goodIn_app (goodIn_of _ (by decide +kernel)) ggX6_toldByAll_X6_has
set_option maxRecDepth 20000 in
theorem ggX6_toldByAll_X6_toldBy : GoodIn wsX6_toldByAll wsX6_toldBy := goodIn_r _ [9, 10, 11, 12, 13, 4, 14, 15, 16, 17, 18, 19, 20, 21, 22, 23, 24, 25, 26, 27, 28, 29, 30, 31, 32, 33, 34, 35, 36, 37, 38, 39, 40, 41, 42, 43, 44, 45, 46, 47, 48, 49, 50, 51, 52, 53, 54, 55, 56, 57] (by decide +kernel) (by decide +kernel)
set_option maxRecDepth 20000 in
theorem gX6_toldByAll_X6_toldBy : GoodIn wsX6_toldByAll (wsV RX6 162 RX6 yX6_toldBy wsX6_toldBy) := goodIn_app (goodIn_of _ (by decide +kernel)) ggX6_toldByAll_X6_toldBy
theorem dX6_toldByAll_0 : decode cX6_toldByAll 0 = .ok (.iconst 0, 1) := by decide +kernel
theorem dX6_toldByAll_1 : decode cX6_toldByAll 1 = .ok (.istore_n 2, 1) := by decide +kernel
theorem dX6_toldByAll_2 : decode cX6_toldByAll 2 = .ok (.iconst 0, 1) := by decide +kernel
theorem dX6_toldByAll_3 : decode cX6_toldByAll 3 = .ok (.istore_n 3, 1) := by decide +kernel
theorem dX6_toldByAll_4 : decode cX6_toldByAll 4 = .ok (.iload_n 3, 1) := by decide +kernel
theorem dX6_toldByAll_5 : decode cX6_toldByAll 5 = .ok (.aload_n 0, 1) := by decide +kernel
theorem dX6_toldByAll_6 : decode cX6_toldByAll 6 = .ok (.getfield 73, 3) := by decide +kernel
theorem dX6_toldByAll_9 : decode cX6_toldByAll 9 = .ok (.if_icmp .ge 29, 3) := by decide +kernel
theorem dX6_toldByAll_12 : decode cX6_toldByAll 12 = .ok (.iload_n 2, 1) := by decide +kernel
theorem dX6_toldByAll_13 : decode cX6_toldByAll 13 = .ok (.iload_n 1, 1) := by decide +kernel
theorem dX6_toldByAll_14 : decode cX6_toldByAll 14 = .ok (.iload_n 3, 1) := by decide +kernel
theorem dX6_toldByAll_15 : decode cX6_toldByAll 15 = .ok (.invokestatic 155, 3) := by decide +kernel
theorem dX6_toldByAll_18 : decode cX6_toldByAll 18 = .ok (.ifCond .eq 11, 3) := by decide +kernel
theorem dX6_toldByAll_21 : decode cX6_toldByAll 21 = .ok (.aload_n 0, 1) := by decide +kernel
theorem dX6_toldByAll_22 : decode cX6_toldByAll 22 = .ok (.iload_n 3, 1) := by decide +kernel
theorem dX6_toldByAll_23 : decode cX6_toldByAll 23 = .ok (.invokevirtual 162, 3) := by decide +kernel
theorem dX6_toldByAll_26 : decode cX6_toldByAll 26 = .ok (.goto 4, 3) := by decide +kernel
theorem dX6_toldByAll_29 : decode cX6_toldByAll 29 = .ok (.iconst 0, 1) := by decide +kernel
theorem dX6_toldByAll_30 : decode cX6_toldByAll 30 = .ok (.ior, 1) := by decide +kernel
theorem dX6_toldByAll_31 : decode cX6_toldByAll 31 = .ok (.istore_n 2, 1) := by decide +kernel
theorem dX6_toldByAll_32 : decode cX6_toldByAll 32 = .ok (.iinc 3 1, 3) := by decide +kernel
theorem dX6_toldByAll_35 : decode cX6_toldByAll 35 = .ok (.goto (-31), 3) := by decide +kernel
theorem dX6_toldByAll_38 : decode cX6_toldByAll 38 = .ok (.iload_n 2, 1) := by decide +kernel
theorem dX6_toldByAll_39 : decode cX6_toldByAll 39 = .ok (.ireturn, 1) := by decide +kernel
set_option maxRecDepth 20000 in
theorem ggX6_piece_X6_isPiece : GoodIn wsX6_piece wsX6_isPiece := goodIn_r _ [7, 8, 9, 10, 6, 11, 54, 55, 56, 57, 58, 59, 60, 61, 62, 63, 64, 65, 66, 67, 68, 69, 70, 71, 72, 73, 74, 75, 76, 77] (by decide +kernel) (by decide +kernel)
set_option maxRecDepth 20000 in
theorem gX6_piece_X6_isPiece : GoodIn wsX6_piece (wsV RX6 165 RX6 yX6_isPiece wsX6_isPiece) := goodIn_app (goodIn_of _ (by decide +kernel)) ggX6_piece_X6_isPiece
set_option maxRecDepth 20000 in
theorem ggX6_piece_X6_asItIs : GoodIn wsX6_piece wsX6_asItIs := goodIn_r _ [15, 16, 2, 17, 18, 6, 19, 54, 55, 56, 57, 58, 59, 60, 61, 62, 63, 64, 65, 66, 67, 68, 69, 70, 71, 72, 73, 74, 75, 76, 77] (by decide +kernel) (by decide +kernel)
set_option maxRecDepth 20000 in
theorem gX6_piece_X6_asItIs : GoodIn wsX6_piece (wsV RX6 168 RX6 yX6_asItIs wsX6_asItIs) := goodIn_app (goodIn_of _ (by decide +kernel)) ggX6_piece_X6_asItIs
set_option maxRecDepth 20000 in
theorem ggX6_piece_X6_toldBy : GoodIn wsX6_piece wsX6_toldBy := goodIn_r _ [23, 24, 25, 26, 27, 6, 28, 16, 1, 29, 30, 31, 32, 33, 34, 35, 36, 37, 38, 39, 40, 41, 42, 43, 44, 45, 54, 55, 56, 57, 58, 59, 60, 61, 62, 63, 64, 65, 66, 67, 68, 69, 70, 71, 72, 73, 74, 75, 76, 77] (by decide +kernel) (by decide +kernel)
set_option maxRecDepth 20000 in
theorem gX6_piece_X6_toldBy : GoodIn wsX6_piece (wsV RX6 162 RX6 yX6_toldBy wsX6_toldBy) := goodIn_app (goodIn_of _ (by decide +kernel)) ggX6_piece_X6_toldBy
set_option maxRecDepth 20000 in
theorem ggX6_piece_X6_isLoose : GoodIn wsX6_piece wsX6_isLoose := goodIn_r _ [49, 16, 50, 1, 51, 52, 6, 53, 54, 55, 56, 57, 58, 59, 60, 61, 62, 63, 64, 65, 66, 67, 68, 69, 70, 71, 72, 73, 74, 75, 76, 77] (by decide +kernel) (by decide +kernel)
set_option maxRecDepth 20000 in
theorem gX6_piece_X6_isLoose : GoodIn wsX6_piece (wsV RX6 159 RX6 yX6_isLoose wsX6_isLoose) := goodIn_app (goodIn_of _ (by decide +kernel)) ggX6_piece_X6_isLoose
theorem dX6_piece_0 : decode cX6_piece 0 = .ok (.aload_n 0, 1) := by decide +kernel
theorem dX6_piece_1 : decode cX6_piece 1 = .ok (.iload_n 1, 1) := by decide +kernel
theorem dX6_piece_2 : decode cX6_piece 2 = .ok (.invokevirtual 165, 3) := by decide +kernel
theorem dX6_piece_5 : decode cX6_piece 5 = .ok (.ifCond .ne 5, 3) := by decide +kernel
theorem dX6_piece_8 : decode cX6_piece 8 = .ok (.iconst (-1), 1) := by decide +kernel
theorem dX6_piece_9 : decode cX6_piece 9 = .ok (.ireturn, 1) := by decide +kernel
theorem dX6_piece_10 : decode cX6_piece 10 = .ok (.aload_n 0, 1) := by decide +kernel
theorem dX6_piece_11 : decode cX6_piece 11 = .ok (.invokevirtual 168, 3) := by decide +kernel
theorem dX6_piece_14 : decode cX6_piece 14 = .ok (.iload_n 2, 1) := by decide +kernel
theorem dX6_piece_15 : decode cX6_piece 15 = .ok (.tableswitch 96 0 5 #[37, 46, 55, 66, 76, 82], 37) := by decide +kernel
theorem dX6_piece_52 : decode cX6_piece 52 = .ok (.aload_n 0, 1) := by decide +kernel
theorem dX6_piece_53 : decode cX6_piece 53 = .ok (.getfield 7, 3) := by decide +kernel
theorem dX6_piece_56 : decode cX6_piece 56 = .ok (.iconst 2, 1) := by decide +kernel
theorem dX6_piece_57 : decode cX6_piece 57 = .ok (.iload_n 1, 1) := by decide +kernel
theorem dX6_piece_58 : decode cX6_piece 58 = .ok (.imul, 1) := by decide +kernel
theorem dX6_piece_59 : decode cX6_piece 59 = .ok (.iaload, 1) := by decide +kernel
theorem dX6_piece_60 : decode cX6_piece 60 = .ok (.ireturn, 1) := by decide +kernel
theorem dX6_piece_61 : decode cX6_piece 61 = .ok (.aload_n 0, 1) := by decide +kernel
theorem dX6_piece_62 : decode cX6_piece 62 = .ok (.getfield 16, 3) := by decide +kernel
theorem dX6_piece_65 : decode cX6_piece 65 = .ok (.iconst 2, 1) := by decide +kernel
theorem dX6_piece_66 : decode cX6_piece 66 = .ok (.iload_n 1, 1) := by decide +kernel
theorem dX6_piece_67 : decode cX6_piece 67 = .ok (.iadd, 1) := by decide +kernel
theorem dX6_piece_68 : decode cX6_piece 68 = .ok (.iaload, 1) := by decide +kernel
theorem dX6_piece_69 : decode cX6_piece 69 = .ok (.ireturn, 1) := by decide +kernel
theorem dX6_piece_70 : decode cX6_piece 70 = .ok (.aload_n 0, 1) := by decide +kernel
theorem dX6_piece_71 : decode cX6_piece 71 = .ok (.getfield 7, 3) := by decide +kernel
theorem dX6_piece_74 : decode cX6_piece 74 = .ok (.iconst 2, 1) := by decide +kernel
theorem dX6_piece_75 : decode cX6_piece 75 = .ok (.iload_n 1, 1) := by decide +kernel
theorem dX6_piece_76 : decode cX6_piece 76 = .ok (.imul, 1) := by decide +kernel
theorem dX6_piece_77 : decode cX6_piece 77 = .ok (.iconst 1, 1) := by decide +kernel
theorem dX6_piece_78 : decode cX6_piece 78 = .ok (.iadd, 1) := by decide +kernel
theorem dX6_piece_79 : decode cX6_piece 79 = .ok (.iaload, 1) := by decide +kernel
theorem dX6_piece_80 : decode cX6_piece 80 = .ok (.ireturn, 1) := by decide +kernel
theorem dX6_piece_81 : decode cX6_piece 81 = .ok (.aload_n 0, 1) := by decide +kernel
theorem dX6_piece_82 : decode cX6_piece 82 = .ok (.getfield 16, 3) := by decide +kernel
theorem dX6_piece_85 : decode cX6_piece 85 = .ok (.bipush 10, 2) := by decide +kernel
theorem dX6_piece_87 : decode cX6_piece 87 = .ok (.iload_n 1, 1) := by decide +kernel
theorem dX6_piece_88 : decode cX6_piece 88 = .ok (.iadd, 1) := by decide +kernel
theorem dX6_piece_89 : decode cX6_piece 89 = .ok (.iaload, 1) := by decide +kernel
theorem dX6_piece_90 : decode cX6_piece 90 = .ok (.ireturn, 1) := by decide +kernel
theorem dX6_piece_91 : decode cX6_piece 91 = .ok (.aload_n 0, 1) := by decide +kernel
theorem dX6_piece_92 : decode cX6_piece 92 = .ok (.iload_n 1, 1) := by decide +kernel
theorem dX6_piece_93 : decode cX6_piece 93 = .ok (.invokevirtual 162, 3) := by decide +kernel
theorem dX6_piece_96 : decode cX6_piece 96 = .ok (.ireturn, 1) := by decide +kernel
theorem dX6_piece_97 : decode cX6_piece 97 = .ok (.aload_n 0, 1) := by decide +kernel
theorem dX6_piece_98 : decode cX6_piece 98 = .ok (.iload_n 1, 1) := by decide +kernel
theorem dX6_piece_99 : decode cX6_piece 99 = .ok (.invokevirtual 159, 3) := by decide +kernel
theorem dX6_piece_102 : decode cX6_piece 102 = .ok (.ifCond .eq 7, 3) := by decide +kernel
theorem dX6_piece_105 : decode cX6_piece 105 = .ok (.iconst 1, 1) := by decide +kernel
theorem dX6_piece_106 : decode cX6_piece 106 = .ok (.goto 4, 3) := by decide +kernel
theorem dX6_piece_109 : decode cX6_piece 109 = .ok (.iconst 0, 1) := by decide +kernel
theorem dX6_piece_110 : decode cX6_piece 110 = .ok (.ireturn, 1) := by decide +kernel
theorem dX6_piece_111 : decode cX6_piece 111 = .ok (.iconst (-1), 1) := by decide +kernel
theorem dX6_piece_112 : decode cX6_piece 112 = .ok (.ireturn, 1) := by decide +kernel
set_option maxRecDepth 20000 in
theorem ggX6_deed_X6_isDeed : GoodIn wsX6_deed wsX6_isDeed := goodIn_r _ [7, 8, 9, 10, 6, 11, 54, 55, 56, 57, 58, 59, 60, 61, 62, 63, 64, 65, 66, 67, 68, 69, 70, 71, 72, 73, 74, 75, 76, 77] (by decide +kernel) (by decide +kernel)
set_option maxRecDepth 20000 in
theorem gX6_deed_X6_isDeed : GoodIn wsX6_deed (wsV RX6 171 RX6 yX6_isDeed wsX6_isDeed) := goodIn_app (goodIn_of _ (by decide +kernel)) ggX6_deed_X6_isDeed
set_option maxRecDepth 20000 in
theorem ggX6_deed_X6_in : GoodIn wsX6_deed wsX6_in := goodIn_r _ [11] (by decide +kernel) (by decide +kernel)
set_option maxRecDepth 20000 in
theorem gX6_deed_X6_in : GoodIn wsX6_deed (va_wsS RX6 76 yX6_in wsX6_in) := goodIn_app (goodIn_of _ (by decide +kernel)) ggX6_deed_X6_in
set_option maxRecDepth 20000 in
theorem ggX6_deed_X6_asItIs : GoodIn wsX6_deed wsX6_asItIs := goodIn_r _ [15, 16, 2, 17, 18, 6, 19, 54, 55, 56, 57, 58, 59, 60, 61, 62, 63, 64, 65, 66, 67, 68, 69, 70, 71, 72, 73, 74, 75, 76, 77] (by decide +kernel) (by decide +kernel)
set_option maxRecDepth 20000 in
theorem gX6_deed_X6_asItIs : GoodIn wsX6_deed (wsV RX6 168 RX6 yX6_asItIs wsX6_asItIs) := goodIn_app (goodIn_of _ (by decide +kernel)) ggX6_deed_X6_asItIs
set_option maxRecDepth 20000 in
theorem ggX6_deed_X6_tellers : GoodIn wsX6_deed wsX6_tellers := goodIn_r _ [23, 24, 8, 25, 26, 27, 6, 28, 16, 29, 30, 31, 32, 33, 34, 35, 36, 37, 38, 39, 40, 41, 1, 42, 43, 44, 45, 46, 47, 48, 49, 50, 51, 52, 53, 54, 55, 56, 57, 58, 59, 60, 61, 62, 63, 64, 65, 66, 67, 68, 69, 70, 71, 72, 73, 74, 75, 76, 77] (by decide +kernel) (by decide +kernel)
set_option maxRecDepth 20000 in
theorem gX6_deed_X6_tellers : GoodIn wsX6_deed (wsV RX6 174 RX6 yX6_tellers wsX6_tellers) := goodIn_app (goodIn_of _ (by decide +kernel)) ggX6_deed_X6_tellers
theorem dX6_deed_0 : decode cX6_deed 0 = .ok (.aload_n 0, 1) := by decide +kernel
theorem dX6_deed_1 : decode cX6_deed 1 = .ok (.iload_n 1, 1) := by decide +kernel
theorem dX6_deed_2 : decode cX6_deed 2 = .ok (.invokevirtual 171, 3) := by decide +kernel
theorem dX6_deed_5 : decode cX6_deed 5 = .ok (.ifCond .eq 12, 3) := by decide +kernel
theorem dX6_deed_8 : decode cX6_deed 8 = .ok (.iload_n 2, 1) := by decide +kernel
theorem dX6_deed_9 : decode cX6_deed 9 = .ok (.iconst 0, 1) := by decide +kernel
theorem dX6_deed_10 : decode cX6_deed 10 = .ok (.iconst 5, 1) := by decide +kernel
theorem dX6_deed_11 : decode cX6_deed 11 = .ok (.invokestatic 76, 3) := by decide +kernel
theorem dX6_deed_14 : decode cX6_deed 14 = .ok (.ifCond .ne 5, 3) := by decide +kernel
theorem dX6_deed_17 : decode cX6_deed 17 = .ok (.iconst (-1), 1) := by decide +kernel
theorem dX6_deed_18 : decode cX6_deed 18 = .ok (.ireturn, 1) := by decide +kernel
theorem dX6_deed_19 : decode cX6_deed 19 = .ok (.aload_n 0, 1) := by decide +kernel
theorem dX6_deed_20 : decode cX6_deed 20 = .ok (.invokevirtual 168, 3) := by decide +kernel
theorem dX6_deed_23 : decode cX6_deed 23 = .ok (.iload_n 2, 1) := by decide +kernel
theorem dX6_deed_24 : decode cX6_deed 24 = .ok (.iconst 4, 1) := by decide +kernel
theorem dX6_deed_25 : decode cX6_deed 25 = .ok (.if_icmp .ge 16, 3) := by decide +kernel
theorem dX6_deed_28 : decode cX6_deed 28 = .ok (.aload_n 0, 1) := by decide +kernel
theorem dX6_deed_29 : decode cX6_deed 29 = .ok (.getfield 13, 3) := by decide +kernel
theorem dX6_deed_32 : decode cX6_deed 32 = .ok (.iconst 4, 1) := by decide +kernel
theorem dX6_deed_33 : decode cX6_deed 33 = .ok (.iload_n 1, 1) := by decide +kernel
theorem dX6_deed_34 : decode cX6_deed 34 = .ok (.imul, 1) := by decide +kernel
theorem dX6_deed_35 : decode cX6_deed 35 = .ok (.iload_n 2, 1) := by decide +kernel
theorem dX6_deed_36 : decode cX6_deed 36 = .ok (.iadd, 1) := by decide +kernel
theorem dX6_deed_37 : decode cX6_deed 37 = .ok (.iaload, 1) := by decide +kernel
theorem dX6_deed_38 : decode cX6_deed 38 = .ok (.goto 26, 3) := by decide +kernel
theorem dX6_deed_41 : decode cX6_deed 41 = .ok (.iload_n 2, 1) := by decide +kernel
theorem dX6_deed_42 : decode cX6_deed 42 = .ok (.iconst 4, 1) := by decide +kernel
theorem dX6_deed_43 : decode cX6_deed 43 = .ok (.if_icmp .ne 16, 3) := by decide +kernel
theorem dX6_deed_46 : decode cX6_deed 46 = .ok (.aload_n 0, 1) := by decide +kernel
theorem dX6_deed_47 : decode cX6_deed 47 = .ok (.getfield 16, 3) := by decide +kernel
theorem dX6_deed_50 : decode cX6_deed 50 = .ok (.iconst 1, 1) := by decide +kernel
theorem dX6_deed_51 : decode cX6_deed 51 = .ok (.iaload, 1) := by decide +kernel
theorem dX6_deed_52 : decode cX6_deed 52 = .ok (.iload_n 1, 1) := by decide +kernel
theorem dX6_deed_53 : decode cX6_deed 53 = .ok (.ishr, 1) := by decide +kernel
theorem dX6_deed_54 : decode cX6_deed 54 = .ok (.iconst 1, 1) := by decide +kernel
theorem dX6_deed_55 : decode cX6_deed 55 = .ok (.iand, 1) := by decide +kernel
theorem dX6_deed_56 : decode cX6_deed 56 = .ok (.goto 8, 3) := by decide +kernel
theorem dX6_deed_59 : decode cX6_deed 59 = .ok (.aload_n 0, 1) := by decide +kernel
theorem dX6_deed_60 : decode cX6_deed 60 = .ok (.iload_n 1, 1) := by decide +kernel
theorem dX6_deed_61 : decode cX6_deed 61 = .ok (.invokevirtual 174, 3) := by decide +kernel
theorem dX6_deed_64 : decode cX6_deed 64 = .ok (.ireturn, 1) := by decide +kernel
set_option maxRecDepth 20000 in
theorem ggX6_remembers_X6_copies : GoodIn wsX6_remembers wsX6_copies := goodIn_r _ [7] (by decide +kernel) (by decide +kernel)
set_option maxRecDepth 20000 in
theorem gX6_remembers_X6_copies : GoodIn wsX6_remembers (va_wsS RX6 123 yX6_copies wsX6_copies) := goodIn_app (goodIn_of _ (by decide +kernel)) ggX6_remembers_X6_copies
theorem dX6_remembers_0 : decode cX6_remembers 0 = .ok (.aload_n 0, 1) := by decide +kernel
theorem dX6_remembers_1 : decode cX6_remembers 1 = .ok (.getfield 130, 3) := by decide +kernel
theorem dX6_remembers_4 : decode cX6_remembers 4 = .ok (.bipush 8, 2) := by decide +kernel
theorem dX6_remembers_6 : decode cX6_remembers 6 = .ok (.if_icmp .ne 42, 3) := by decide +kernel
theorem dX6_remembers_9 : decode cX6_remembers 9 = .ok (.iconst 0, 1) := by decide +kernel
theorem dX6_remembers_10 : decode cX6_remembers 10 = .ok (.istore_n 1, 1) := by decide +kernel
theorem dX6_remembers_11 : decode cX6_remembers 11 = .ok (.iload_n 1, 1) := by decide +kernel
theorem dX6_remembers_12 : decode cX6_remembers 12 = .ok (.bipush 126, 2) := by decide +kernel
theorem dX6_remembers_14 : decode cX6_remembers 14 = .ok (.if_icmp .ge 24, 3) := by decide +kernel
theorem dX6_remembers_17 : decode cX6_remembers 17 = .ok (.aload_n 0, 1) := by decide +kernel
theorem dX6_remembers_18 : decode cX6_remembers 18 = .ok (.getfield 19, 3) := by decide +kernel
theorem dX6_remembers_21 : decode cX6_remembers 21 = .ok (.iload_n 1, 1) := by decide +kernel
theorem dX6_remembers_22 : decode cX6_remembers 22 = .ok (.aload_n 0, 1) := by decide +kernel
theorem dX6_remembers_23 : decode cX6_remembers 23 = .ok (.getfield 19, 3) := by decide +kernel
theorem dX6_remembers_26 : decode cX6_remembers 26 = .ok (.iload_n 1, 1) := by decide +kernel
theorem dX6_remembers_27 : decode cX6_remembers 27 = .ok (.bipush 18, 2) := by decide +kernel
theorem dX6_remembers_29 : decode cX6_remembers 29 = .ok (.iadd, 1) := by decide +kernel
theorem dX6_remembers_30 : decode cX6_remembers 30 = .ok (.iaload, 1) := by decide +kernel
theorem dX6_remembers_31 : decode cX6_remembers 31 = .ok (.iastore, 1) := by decide +kernel
theorem dX6_remembers_32 : decode cX6_remembers 32 = .ok (.iinc 1 1, 3) := by decide +kernel
theorem dX6_remembers_35 : decode cX6_remembers 35 = .ok (.goto (-24), 3) := by decide +kernel
theorem dX6_remembers_38 : decode cX6_remembers 38 = .ok (.aload_n 0, 1) := by decide +kernel
theorem dX6_remembers_39 : decode cX6_remembers 39 = .ok (.dup, 1) := by decide +kernel
theorem dX6_remembers_40 : decode cX6_remembers 40 = .ok (.getfield 130, 3) := by decide +kernel
theorem dX6_remembers_43 : decode cX6_remembers 43 = .ok (.iconst 1, 1) := by decide +kernel
theorem dX6_remembers_44 : decode cX6_remembers 44 = .ok (.isub, 1) := by decide +kernel
theorem dX6_remembers_45 : decode cX6_remembers 45 = .ok (.putfield 130, 3) := by decide +kernel
theorem dX6_remembers_48 : decode cX6_remembers 48 = .ok (.aload_n 0, 1) := by decide +kernel
theorem dX6_remembers_49 : decode cX6_remembers 49 = .ok (.getfield 19, 3) := by decide +kernel
theorem dX6_remembers_52 : decode cX6_remembers 52 = .ok (.bipush 18, 2) := by decide +kernel
theorem dX6_remembers_54 : decode cX6_remembers 54 = .ok (.aload_n 0, 1) := by decide +kernel
theorem dX6_remembers_55 : decode cX6_remembers 55 = .ok (.getfield 130, 3) := by decide +kernel
theorem dX6_remembers_58 : decode cX6_remembers 58 = .ok (.imul, 1) := by decide +kernel
theorem dX6_remembers_59 : decode cX6_remembers 59 = .ok (.aload_n 0, 1) := by decide +kernel
theorem dX6_remembers_60 : decode cX6_remembers 60 = .ok (.getfield 16, 3) := by decide +kernel
theorem dX6_remembers_63 : decode cX6_remembers 63 = .ok (.iconst 0, 1) := by decide +kernel
theorem dX6_remembers_64 : decode cX6_remembers 64 = .ok (.bipush 18, 2) := by decide +kernel
theorem dX6_remembers_66 : decode cX6_remembers 66 = .ok (.invokestatic 123, 3) := by decide +kernel
theorem dX6_remembers_69 : decode cX6_remembers 69 = .ok (.aload_n 0, 1) := by decide +kernel
theorem dX6_remembers_70 : decode cX6_remembers 70 = .ok (.dup, 1) := by decide +kernel
theorem dX6_remembers_71 : decode cX6_remembers 71 = .ok (.getfield 130, 3) := by decide +kernel
theorem dX6_remembers_74 : decode cX6_remembers 74 = .ok (.iconst 1, 1) := by decide +kernel
theorem dX6_remembers_75 : decode cX6_remembers 75 = .ok (.iadd, 1) := by decide +kernel
theorem dX6_remembers_76 : decode cX6_remembers 76 = .ok (.putfield 130, 3) := by decide +kernel
theorem dX6_remembers_79 : decode cX6_remembers 79 = .ok (.return_, 1) := by decide +kernel
set_option maxRecDepth 20000 in
theorem ggX6_speak_X6_isPiece : GoodIn wsX6_speak wsX6_isPiece := goodIn_r _ [6, 7, 8, 9, 5, 10, 63, 64, 65, 66, 67, 68, 69, 70, 71, 72, 73, 74, 75, 76, 77, 78, 79, 80, 81, 82, 83, 84, 85, 86] (by decide +kernel) (by decide +kernel)
set_option maxRecDepth 20000 in
theorem gX6_speak_X6_isPiece : GoodIn wsX6_speak (wsV RX6 165 RX6 yX6_isPiece wsX6_isPiece) := goodIn_app (goodIn_of _ (by decide +kernel)) ggX6_speak_X6_isPiece
set_option maxRecDepth 20000 in
theorem ggX6_speak_X6_asItIs : GoodIn wsX6_speak wsX6_asItIs := goodIn_r _ [14, 15, 1, 16, 17, 5, 18, 63, 64, 65, 66, 67, 68, 69, 70, 71, 72, 73, 74, 75, 76, 77, 78, 79, 80, 81, 82, 83, 84, 85, 86] (by decide +kernel) (by decide +kernel)
set_option maxRecDepth 20000 in
theorem gX6_speak_X6_asItIs : GoodIn wsX6_speak (wsV RX6 168 RX6 yX6_asItIs wsX6_asItIs) := goodIn_app (goodIn_of _ (by decide +kernel)) ggX6_speak_X6_asItIs
set_option maxRecDepth 20000 in
theorem ggX6_speak_X6_isLoose : GoodIn wsX6_speak wsX6_isLoose := goodIn_r _ [22, 15, 23, 24, 25, 26, 5, 27, 63, 64, 65, 66, 67, 68, 69, 70, 71, 72, 73, 74, 75, 76, 77, 78, 79, 80, 81, 82, 83, 84, 85, 86] (by decide +kernel) (by decide +kernel)
set_option maxRecDepth 20000 in
theorem gX6_speak_X6_isLoose : GoodIn wsX6_speak (wsV RX6 159 RX6 yX6_isLoose wsX6_isLoose) := goodIn_app (goodIn_of _ (by decide +kernel)) ggX6_speak_X6_isLoose
set_option maxRecDepth 20000 in
theorem ggX6_speak_X6_remembers : GoodIn wsX6_speak wsX6_remembers := goodIn_r _ [31, 32, 33, 1, 16, 17, 5, 18, 63, 64, 65, 66, 67, 68, 69, 70, 71, 72, 73, 74, 75, 76, 77, 78, 79, 80, 81, 82, 83, 84, 85, 86] (by decide +kernel) (by decide +kernel)
set_option maxRecDepth 20000 in
theorem gX6_speak_X6_remembers : GoodIn wsX6_speak (wsV RX6 177 RX6 yX6_remembers wsX6_remembers) := goodIn_app (goodIn_of _ (by decide +kernel)) ggX6_speak_X6_remembers
set_option maxRecDepth 20000 in
theorem ggX6_speak_X6_toldBy : GoodIn wsX6_speak wsX6_toldBy := goodIn_r _ [37, 38, 39, 40, 41, 5, 42, 15, 24, 43, 44, 45, 46, 47, 48, 49, 50, 51, 52, 53, 54, 55, 56, 57, 58, 59, 63, 64, 65, 66, 67, 68, 69, 70, 71, 72, 73, 74, 75, 76, 77, 78, 79, 80, 81, 82, 83, 84, 85, 86] (by decide +kernel) (by decide +kernel)
set_option maxRecDepth 20000 in
theorem gX6_speak_X6_toldBy : GoodIn wsX6_speak (wsV RX6 162 RX6 yX6_toldBy wsX6_toldBy) := goodIn_app (goodIn_of _ (by decide +kernel)) ggX6_speak_X6_toldBy
set_option maxRecDepth 20000 in
theorem ggX6_speak_X6_bits : GoodIn wsX6_speak wsX6_bits := goodIn_r _ [62] (by decide +kernel) (by decide +kernel)
set_option maxRecDepth 20000 in
theorem gX6_speak_X6_bits : GoodIn wsX6_speak (va_wsS RX6 180 yX6_bits wsX6_bits) := goodIn_app (goodIn_of _ (by decide +kernel)) ggX6_speak_X6_bits
theorem dX6_speak_0 : decode cX6_speak 0 = .ok (.aload_n 0, 1) := by decide +kernel
theorem dX6_speak_1 : decode cX6_speak 1 = .ok (.iload_n 1, 1) := by decide +kernel
theorem dX6_speak_2 : decode cX6_speak 2 = .ok (.invokevirtual 165, 3) := by decide +kernel
theorem dX6_speak_5 : decode cX6_speak 5 = .ok (.ifCond .ne 5, 3) := by decide +kernel
theorem dX6_speak_8 : decode cX6_speak 8 = .ok (.iconst (-1), 1) := by decide +kernel
theorem dX6_speak_9 : decode cX6_speak 9 = .ok (.ireturn, 1) := by decide +kernel
theorem dX6_speak_10 : decode cX6_speak 10 = .ok (.aload_n 0, 1) := by decide +kernel
theorem dX6_speak_11 : decode cX6_speak 11 = .ok (.invokevirtual 168, 3) := by decide +kernel
theorem dX6_speak_14 : decode cX6_speak 14 = .ok (.aload_n 0, 1) := by decide +kernel
theorem dX6_speak_15 : decode cX6_speak 15 = .ok (.iload_n 1, 1) := by decide +kernel
theorem dX6_speak_16 : decode cX6_speak 16 = .ok (.invokevirtual 159, 3) := by decide +kernel
theorem dX6_speak_19 : decode cX6_speak 19 = .ok (.ifCond .ne 6, 3) := by decide +kernel
theorem dX6_speak_22 : decode cX6_speak 22 = .ok (.bipush (-2), 2) := by decide +kernel
theorem dX6_speak_24 : decode cX6_speak 24 = .ok (.ireturn, 1) := by decide +kernel
theorem dX6_speak_25 : decode cX6_speak 25 = .ok (.aload_n 0, 1) := by decide +kernel
theorem dX6_speak_26 : decode cX6_speak 26 = .ok (.invokevirtual 177, 3) := by decide +kernel
theorem dX6_speak_29 : decode cX6_speak 29 = .ok (.aload_n 0, 1) := by decide +kernel
theorem dX6_speak_30 : decode cX6_speak 30 = .ok (.iload_n 1, 1) := by decide +kernel
theorem dX6_speak_31 : decode cX6_speak 31 = .ok (.invokevirtual 162, 3) := by decide +kernel
theorem dX6_speak_34 : decode cX6_speak 34 = .ok (.aload_n 0, 1) := by decide +kernel
theorem dX6_speak_35 : decode cX6_speak 35 = .ok (.getfield 16, 3) := by decide +kernel
theorem dX6_speak_38 : decode cX6_speak 38 = .ok (.iconst 1, 1) := by decide +kernel
theorem dX6_speak_39 : decode cX6_speak 39 = .ok (.iaload, 1) := by decide +kernel
theorem dX6_speak_40 : decode cX6_speak 40 = .ok (.iconst (-1), 1) := by decide +kernel
theorem dX6_speak_41 : decode cX6_speak 41 = .ok (.ixor, 1) := by decide +kernel
theorem dX6_speak_42 : decode cX6_speak 42 = .ok (.iand, 1) := by decide +kernel
theorem dX6_speak_43 : decode cX6_speak 43 = .ok (.istore_n 2, 1) := by decide +kernel
theorem dX6_speak_44 : decode cX6_speak 44 = .ok (.aload_n 0, 1) := by decide +kernel
theorem dX6_speak_45 : decode cX6_speak 45 = .ok (.getfield 16, 3) := by decide +kernel
theorem dX6_speak_48 : decode cX6_speak 48 = .ok (.iconst 1, 1) := by decide +kernel
theorem dX6_speak_49 : decode cX6_speak 49 = .ok (.dup2, 1) := by decide +kernel
theorem dX6_speak_50 : decode cX6_speak 50 = .ok (.iaload, 1) := by decide +kernel
theorem dX6_speak_51 : decode cX6_speak 51 = .ok (.iload_n 2, 1) := by decide +kernel
theorem dX6_speak_52 : decode cX6_speak 52 = .ok (.ior, 1) := by decide +kernel
theorem dX6_speak_53 : decode cX6_speak 53 = .ok (.iastore, 1) := by decide +kernel
theorem dX6_speak_54 : decode cX6_speak 54 = .ok (.aload_n 0, 1) := by decide +kernel
theorem dX6_speak_55 : decode cX6_speak 55 = .ok (.getfield 16, 3) := by decide +kernel
theorem dX6_speak_58 : decode cX6_speak 58 = .ok (.bipush 10, 2) := by decide +kernel
theorem dX6_speak_60 : decode cX6_speak 60 = .ok (.iload_n 1, 1) := by decide +kernel
theorem dX6_speak_61 : decode cX6_speak 61 = .ok (.iadd, 1) := by decide +kernel
theorem dX6_speak_62 : decode cX6_speak 62 = .ok (.iconst 2, 1) := by decide +kernel
theorem dX6_speak_63 : decode cX6_speak 63 = .ok (.iastore, 1) := by decide +kernel
theorem dX6_speak_64 : decode cX6_speak 64 = .ok (.iload_n 2, 1) := by decide +kernel
theorem dX6_speak_65 : decode cX6_speak 65 = .ok (.invokestatic 180, 3) := by decide +kernel
theorem dX6_speak_68 : decode cX6_speak 68 = .ok (.ireturn, 1) := by decide +kernel
set_option maxRecDepth 20000 in
theorem ggX6_buy_X6_isPiece : GoodIn wsX6_buy wsX6_isPiece := goodIn_r _ [7, 8, 9, 10, 6, 11, 21, 22, 23, 24, 25, 26, 27, 28, 29, 30, 31, 32, 33, 34, 35, 36, 37, 38, 39, 40, 41, 42, 43, 44] (by decide +kernel) (by decide +kernel)
set_option maxRecDepth 20000 in
theorem gX6_buy_X6_isPiece : GoodIn wsX6_buy (wsV RX6 165 RX6 yX6_isPiece wsX6_isPiece) := goodIn_app (goodIn_of _ (by decide +kernel)) ggX6_buy_X6_isPiece
set_option maxRecDepth 20000 in
theorem ggX6_buy_X6_remembers : GoodIn wsX6_buy wsX6_remembers := goodIn_r _ [15, 16, 17, 1, 18, 19, 6, 20, 21, 22, 23, 24, 25, 26, 27, 28, 29, 30, 31, 32, 33, 34, 35, 36, 37, 38, 39, 40, 41, 42, 43, 44] (by decide +kernel) (by decide +kernel)
set_option maxRecDepth 20000 in
theorem gX6_buy_X6_remembers : GoodIn wsX6_buy (wsV RX6 177 RX6 yX6_remembers wsX6_remembers) := goodIn_app (goodIn_of _ (by decide +kernel)) ggX6_buy_X6_remembers
theorem dX6_buy_0 : decode cX6_buy 0 = .ok (.aload_n 0, 1) := by decide +kernel
theorem dX6_buy_1 : decode cX6_buy 1 = .ok (.iload_n 1, 1) := by decide +kernel
theorem dX6_buy_2 : decode cX6_buy 2 = .ok (.invokevirtual 165, 3) := by decide +kernel
theorem dX6_buy_5 : decode cX6_buy 5 = .ok (.ifCond .ne 5, 3) := by decide +kernel
theorem dX6_buy_8 : decode cX6_buy 8 = .ok (.iconst (-1), 1) := by decide +kernel
theorem dX6_buy_9 : decode cX6_buy 9 = .ok (.ireturn, 1) := by decide +kernel
theorem dX6_buy_10 : decode cX6_buy 10 = .ok (.aload_n 0, 1) := by decide +kernel
theorem dX6_buy_11 : decode cX6_buy 11 = .ok (.getfield 16, 3) := by decide +kernel
theorem dX6_buy_14 : decode cX6_buy 14 = .ok (.bipush 10, 2) := by decide +kernel
theorem dX6_buy_16 : decode cX6_buy 16 = .ok (.iload_n 1, 1) := by decide +kernel
theorem dX6_buy_17 : decode cX6_buy 17 = .ok (.iadd, 1) := by decide +kernel
theorem dX6_buy_18 : decode cX6_buy 18 = .ok (.iaload, 1) := by decide +kernel
theorem dX6_buy_19 : decode cX6_buy 19 = .ok (.ifCond .ne 22, 3) := by decide +kernel
theorem dX6_buy_22 : decode cX6_buy 22 = .ok (.aload_n 0, 1) := by decide +kernel
theorem dX6_buy_23 : decode cX6_buy 23 = .ok (.getfield 16, 3) := by decide +kernel
theorem dX6_buy_26 : decode cX6_buy 26 = .ok (.iconst 0, 1) := by decide +kernel
theorem dX6_buy_27 : decode cX6_buy 27 = .ok (.iaload, 1) := by decide +kernel
theorem dX6_buy_28 : decode cX6_buy 28 = .ok (.aload_n 0, 1) := by decide +kernel
theorem dX6_buy_29 : decode cX6_buy 29 = .ok (.getfield 7, 3) := by decide +kernel
theorem dX6_buy_32 : decode cX6_buy 32 = .ok (.iconst 2, 1) := by decide +kernel
theorem dX6_buy_33 : decode cX6_buy 33 = .ok (.iload_n 1, 1) := by decide +kernel
theorem dX6_buy_34 : decode cX6_buy 34 = .ok (.imul, 1) := by decide +kernel
theorem dX6_buy_35 : decode cX6_buy 35 = .ok (.iconst 1, 1) := by decide +kernel
theorem dX6_buy_36 : decode cX6_buy 36 = .ok (.iadd, 1) := by decide +kernel
theorem dX6_buy_37 : decode cX6_buy 37 = .ok (.iaload, 1) := by decide +kernel
theorem dX6_buy_38 : decode cX6_buy 38 = .ok (.if_icmp .ge 6, 3) := by decide +kernel
theorem dX6_buy_41 : decode cX6_buy 41 = .ok (.bipush (-2), 2) := by decide +kernel
theorem dX6_buy_43 : decode cX6_buy 43 = .ok (.ireturn, 1) := by decide +kernel
theorem dX6_buy_44 : decode cX6_buy 44 = .ok (.aload_n 0, 1) := by decide +kernel
theorem dX6_buy_45 : decode cX6_buy 45 = .ok (.invokevirtual 177, 3) := by decide +kernel
theorem dX6_buy_48 : decode cX6_buy 48 = .ok (.aload_n 0, 1) := by decide +kernel
theorem dX6_buy_49 : decode cX6_buy 49 = .ok (.getfield 16, 3) := by decide +kernel
theorem dX6_buy_52 : decode cX6_buy 52 = .ok (.bipush 10, 2) := by decide +kernel
theorem dX6_buy_54 : decode cX6_buy 54 = .ok (.iload_n 1, 1) := by decide +kernel
theorem dX6_buy_55 : decode cX6_buy 55 = .ok (.iadd, 1) := by decide +kernel
theorem dX6_buy_56 : decode cX6_buy 56 = .ok (.iconst 1, 1) := by decide +kernel
theorem dX6_buy_57 : decode cX6_buy 57 = .ok (.iastore, 1) := by decide +kernel
theorem dX6_buy_58 : decode cX6_buy 58 = .ok (.aload_n 0, 1) := by decide +kernel
theorem dX6_buy_59 : decode cX6_buy 59 = .ok (.getfield 16, 3) := by decide +kernel
theorem dX6_buy_62 : decode cX6_buy 62 = .ok (.iconst 0, 1) := by decide +kernel
theorem dX6_buy_63 : decode cX6_buy 63 = .ok (.dup2, 1) := by decide +kernel
theorem dX6_buy_64 : decode cX6_buy 64 = .ok (.iaload, 1) := by decide +kernel
theorem dX6_buy_65 : decode cX6_buy 65 = .ok (.aload_n 0, 1) := by decide +kernel
theorem dX6_buy_66 : decode cX6_buy 66 = .ok (.getfield 7, 3) := by decide +kernel
theorem dX6_buy_69 : decode cX6_buy 69 = .ok (.iconst 2, 1) := by decide +kernel
theorem dX6_buy_70 : decode cX6_buy 70 = .ok (.iload_n 1, 1) := by decide +kernel
theorem dX6_buy_71 : decode cX6_buy 71 = .ok (.imul, 1) := by decide +kernel
theorem dX6_buy_72 : decode cX6_buy 72 = .ok (.iconst 1, 1) := by decide +kernel
theorem dX6_buy_73 : decode cX6_buy 73 = .ok (.iadd, 1) := by decide +kernel
theorem dX6_buy_74 : decode cX6_buy 74 = .ok (.iaload, 1) := by decide +kernel
theorem dX6_buy_75 : decode cX6_buy 75 = .ok (.isub, 1) := by decide +kernel
theorem dX6_buy_76 : decode cX6_buy 76 = .ok (.iastore, 1) := by decide +kernel
theorem dX6_buy_77 : decode cX6_buy 77 = .ok (.aload_n 0, 1) := by decide +kernel
theorem dX6_buy_78 : decode cX6_buy 78 = .ok (.getfield 16, 3) := by decide +kernel
theorem dX6_buy_81 : decode cX6_buy 81 = .ok (.iconst 0, 1) := by decide +kernel
theorem dX6_buy_82 : decode cX6_buy 82 = .ok (.iaload, 1) := by decide +kernel
theorem dX6_buy_83 : decode cX6_buy 83 = .ok (.ireturn, 1) := by decide +kernel
set_option maxRecDepth 20000 in
theorem ggX6_carry_X6_isPiece : GoodIn wsX6_carry wsX6_isPiece := goodIn_r _ [6, 7, 8, 9, 5, 10, 20, 21, 22, 23, 24, 25, 26, 27, 28, 29, 30, 31, 32, 33, 34, 35, 36, 37, 38, 39, 40, 41, 42, 43] (by decide +kernel) (by decide +kernel)
set_option maxRecDepth 20000 in
theorem gX6_carry_X6_isPiece : GoodIn wsX6_carry (wsV RX6 165 RX6 yX6_isPiece wsX6_isPiece) := goodIn_app (goodIn_of _ (by decide +kernel)) ggX6_carry_X6_isPiece
set_option maxRecDepth 20000 in
theorem ggX6_carry_X6_in : GoodIn wsX6_carry wsX6_in := goodIn_r _ [10] (by decide +kernel) (by decide +kernel)
set_option maxRecDepth 20000 in
theorem gX6_carry_X6_in : GoodIn wsX6_carry (va_wsS RX6 76 yX6_in wsX6_in) := goodIn_app (goodIn_of _ (by decide +kernel)) ggX6_carry_X6_in
set_option maxRecDepth 20000 in
theorem ggX6_carry_X6_remembers : GoodIn wsX6_carry wsX6_remembers := goodIn_r _ [14, 15, 16, 1, 17, 18, 5, 19, 20, 21, 22, 23, 24, 25, 26, 27, 28, 29, 30, 31, 32, 33, 34, 35, 36, 37, 38, 39, 40, 41, 42, 43] (by decide +kernel) (by decide +kernel)
set_option maxRecDepth 20000 in
theorem gX6_carry_X6_remembers : GoodIn wsX6_carry (wsV RX6 177 RX6 yX6_remembers wsX6_remembers) := goodIn_app (goodIn_of _ (by decide +kernel)) ggX6_carry_X6_remembers
theorem dX6_carry_0 : decode cX6_carry 0 = .ok (.aload_n 0, 1) := by decide +kernel
theorem dX6_carry_1 : decode cX6_carry 1 = .ok (.iload_n 1, 1) := by decide +kernel
theorem dX6_carry_2 : decode cX6_carry 2 = .ok (.invokevirtual 165, 3) := by decide +kernel
theorem dX6_carry_5 : decode cX6_carry 5 = .ok (.ifCond .eq 12, 3) := by decide +kernel
theorem dX6_carry_8 : decode cX6_carry 8 = .ok (.iload_n 2, 1) := by decide +kernel
theorem dX6_carry_9 : decode cX6_carry 9 = .ok (.iconst 0, 1) := by decide +kernel
theorem dX6_carry_10 : decode cX6_carry 10 = .ok (.iconst 3, 1) := by decide +kernel
theorem dX6_carry_11 : decode cX6_carry 11 = .ok (.invokestatic 76, 3) := by decide +kernel
theorem dX6_carry_14 : decode cX6_carry 14 = .ok (.ifCond .ne 5, 3) := by decide +kernel
theorem dX6_carry_17 : decode cX6_carry 17 = .ok (.iconst (-1), 1) := by decide +kernel
theorem dX6_carry_18 : decode cX6_carry 18 = .ok (.ireturn, 1) := by decide +kernel
theorem dX6_carry_19 : decode cX6_carry 19 = .ok (.aload_n 0, 1) := by decide +kernel
theorem dX6_carry_20 : decode cX6_carry 20 = .ok (.getfield 16, 3) := by decide +kernel
theorem dX6_carry_23 : decode cX6_carry 23 = .ok (.iconst 2, 1) := by decide +kernel
theorem dX6_carry_24 : decode cX6_carry 24 = .ok (.iload_n 1, 1) := by decide +kernel
theorem dX6_carry_25 : decode cX6_carry 25 = .ok (.iadd, 1) := by decide +kernel
theorem dX6_carry_26 : decode cX6_carry 26 = .ok (.iaload, 1) := by decide +kernel
theorem dX6_carry_27 : decode cX6_carry 27 = .ok (.istore_n 3, 1) := by decide +kernel
theorem dX6_carry_28 : decode cX6_carry 28 = .ok (.aload_n 0, 1) := by decide +kernel
theorem dX6_carry_29 : decode cX6_carry 29 = .ok (.getfield 16, 3) := by decide +kernel
theorem dX6_carry_32 : decode cX6_carry 32 = .ok (.bipush 10, 2) := by decide +kernel
theorem dX6_carry_34 : decode cX6_carry 34 = .ok (.iload_n 1, 1) := by decide +kernel
theorem dX6_carry_35 : decode cX6_carry 35 = .ok (.iadd, 1) := by decide +kernel
theorem dX6_carry_36 : decode cX6_carry 36 = .ok (.iaload, 1) := by decide +kernel
theorem dX6_carry_37 : decode cX6_carry 37 = .ok (.iconst 2, 1) := by decide +kernel
theorem dX6_carry_38 : decode cX6_carry 38 = .ok (.if_icmp .eq 8, 3) := by decide +kernel
theorem dX6_carry_41 : decode cX6_carry 41 = .ok (.iload_n 3, 1) := by decide +kernel
theorem dX6_carry_42 : decode cX6_carry 42 = .ok (.iload_n 2, 1) := by decide +kernel
theorem dX6_carry_43 : decode cX6_carry 43 = .ok (.if_icmp .ne 6, 3) := by decide +kernel
theorem dX6_carry_46 : decode cX6_carry 46 = .ok (.bipush (-2), 2) := by decide +kernel
theorem dX6_carry_48 : decode cX6_carry 48 = .ok (.ireturn, 1) := by decide +kernel
theorem dX6_carry_49 : decode cX6_carry 49 = .ok (.aload_n 0, 1) := by decide +kernel
theorem dX6_carry_50 : decode cX6_carry 50 = .ok (.invokevirtual 177, 3) := by decide +kernel
theorem dX6_carry_53 : decode cX6_carry 53 = .ok (.aload_n 0, 1) := by decide +kernel
theorem dX6_carry_54 : decode cX6_carry 54 = .ok (.getfield 16, 3) := by decide +kernel
theorem dX6_carry_57 : decode cX6_carry 57 = .ok (.iconst 2, 1) := by decide +kernel
theorem dX6_carry_58 : decode cX6_carry 58 = .ok (.iload_n 1, 1) := by decide +kernel
theorem dX6_carry_59 : decode cX6_carry 59 = .ok (.iadd, 1) := by decide +kernel
theorem dX6_carry_60 : decode cX6_carry 60 = .ok (.iload_n 2, 1) := by decide +kernel
theorem dX6_carry_61 : decode cX6_carry 61 = .ok (.iastore, 1) := by decide +kernel
theorem dX6_carry_62 : decode cX6_carry 62 = .ok (.iload_n 3, 1) := by decide +kernel
theorem dX6_carry_63 : decode cX6_carry 63 = .ok (.ireturn, 1) := by decide +kernel
set_option maxRecDepth 20000 in
theorem ggX6_undo_X6_copies : GoodIn wsX6_undo wsX6_copies := goodIn_r _ [7] (by decide +kernel) (by decide +kernel)
set_option maxRecDepth 20000 in
theorem gX6_undo_X6_copies : GoodIn wsX6_undo (va_wsS RX6 123 yX6_copies wsX6_copies) := goodIn_app (goodIn_of _ (by decide +kernel)) ggX6_undo_X6_copies
theorem dX6_undo_0 : decode cX6_undo 0 = .ok (.aload_n 0, 1) := by decide +kernel
theorem dX6_undo_1 : decode cX6_undo 1 = .ok (.getfield 130, 3) := by decide +kernel
theorem dX6_undo_4 : decode cX6_undo 4 = .ok (.ifCond .ne 6, 3) := by decide +kernel
theorem dX6_undo_7 : decode cX6_undo 7 = .ok (.bipush (-2), 2) := by decide +kernel
theorem dX6_undo_9 : decode cX6_undo 9 = .ok (.ireturn, 1) := by decide +kernel
theorem dX6_undo_10 : decode cX6_undo 10 = .ok (.aload_n 0, 1) := by decide +kernel
theorem dX6_undo_11 : decode cX6_undo 11 = .ok (.dup, 1) := by decide +kernel
theorem dX6_undo_12 : decode cX6_undo 12 = .ok (.getfield 130, 3) := by decide +kernel
theorem dX6_undo_15 : decode cX6_undo 15 = .ok (.iconst 1, 1) := by decide +kernel
theorem dX6_undo_16 : decode cX6_undo 16 = .ok (.isub, 1) := by decide +kernel
theorem dX6_undo_17 : decode cX6_undo 17 = .ok (.putfield 130, 3) := by decide +kernel
theorem dX6_undo_20 : decode cX6_undo 20 = .ok (.aload_n 0, 1) := by decide +kernel
theorem dX6_undo_21 : decode cX6_undo 21 = .ok (.getfield 16, 3) := by decide +kernel
theorem dX6_undo_24 : decode cX6_undo 24 = .ok (.iconst 0, 1) := by decide +kernel
theorem dX6_undo_25 : decode cX6_undo 25 = .ok (.aload_n 0, 1) := by decide +kernel
theorem dX6_undo_26 : decode cX6_undo 26 = .ok (.getfield 19, 3) := by decide +kernel
theorem dX6_undo_29 : decode cX6_undo 29 = .ok (.bipush 18, 2) := by decide +kernel
theorem dX6_undo_31 : decode cX6_undo 31 = .ok (.aload_n 0, 1) := by decide +kernel
theorem dX6_undo_32 : decode cX6_undo 32 = .ok (.getfield 130, 3) := by decide +kernel
theorem dX6_undo_35 : decode cX6_undo 35 = .ok (.imul, 1) := by decide +kernel
theorem dX6_undo_36 : decode cX6_undo 36 = .ok (.bipush 18, 2) := by decide +kernel
theorem dX6_undo_38 : decode cX6_undo 38 = .ok (.invokestatic 123, 3) := by decide +kernel
theorem dX6_undo_41 : decode cX6_undo 41 = .ok (.aload_n 0, 1) := by decide +kernel
theorem dX6_undo_42 : decode cX6_undo 42 = .ok (.getfield 130, 3) := by decide +kernel
theorem dX6_undo_45 : decode cX6_undo 45 = .ok (.ireturn, 1) := by decide +kernel
set_option maxRecDepth 20000 in
theorem ggX6_hushes_X6_loose : GoodIn wsX6_hushes wsX6_loose := goodIn_r _ [6, 1, 7, 8, 9, 5, 10, 11, 12, 13, 14, 15, 16, 51, 52, 53, 54, 55, 56, 57, 58, 59, 60, 61, 62, 63, 64, 65, 66, 67, 68, 69, 70, 71, 72, 73, 74] (by decide +kernel) (by decide +kernel)
set_option maxRecDepth 20000 in
theorem gX6_hushes_X6_loose : GoodIn wsX6_hushes (wsV RX6 183 RX6 yX6_loose wsX6_loose) := goodIn_app (goodIn_of _ (by decide +kernel)) ggX6_hushes_X6_loose
set_option maxRecDepth 20000 in
theorem ggX6_hushes_X6_toldByAll : GoodIn wsX6_hushes wsX6_toldByAll := goodIn_r _ [20, 1, 14, 15, 5, 16, 21, 22, 23, 24, 25, 26, 27, 28, 29, 11, 13, 30, 31, 32, 33, 34, 35, 36, 37, 38, 39, 40, 41, 42, 43, 44, 45, 46, 51, 52, 53, 54, 55, 56, 57, 58, 59, 60, 61, 62, 63, 64, 65, 66, 67, 68, 69, 70, 71, 72, 73, 74] (by decide +kernel) (by decide +kernel)
set_option maxRecDepth 20000 in
theorem gX6_hushes_X6_toldByAll : GoodIn wsX6_hushes (wsV RX6 186 RX6 yX6_toldByAll wsX6_toldByAll) := goodIn_app (goodIn_of _ (by decide +kernel)) ggX6_hushes_X6_toldByAll
set_option maxRecDepth 20000 in
theorem ggX6_hushes_X6_priceOf : GoodIn wsX6_hushes wsX6_priceOf := goodIn_r _ [50, 1, 13, 14, 15, 5, 16, 51, 52, 53, 54, 55, 56, 57, 58, 59, 60, 61, 62, 63, 64, 65, 66, 67, 68, 69, 70, 71, 72, 73, 74] (by decide +kernel) (by decide +kernel)
set_option maxRecDepth 20000 in
theorem gX6_hushes_X6_priceOf : GoodIn wsX6_hushes (wsV RX6 189 RX6 yX6_priceOf wsX6_priceOf) := goodIn_app (goodIn_of _ (by decide +kernel)) ggX6_hushes_X6_priceOf
theorem dX6_hushes_0 : decode cX6_hushes 0 = .ok (.iconst 0, 1) := by decide +kernel
theorem dX6_hushes_1 : decode cX6_hushes 1 = .ok (.istore_n 3, 1) := by decide +kernel
theorem dX6_hushes_2 : decode cX6_hushes 2 = .ok (.iconst (-1), 1) := by decide +kernel
theorem dX6_hushes_3 : decode cX6_hushes 3 = .ok (.istore 4, 2) := by decide +kernel
theorem dX6_hushes_5 : decode cX6_hushes 5 = .ok (.aload_n 0, 1) := by decide +kernel
theorem dX6_hushes_6 : decode cX6_hushes 6 = .ok (.invokevirtual 183, 3) := by decide +kernel
theorem dX6_hushes_9 : decode cX6_hushes 9 = .ok (.istore 5, 2) := by decide +kernel
theorem dX6_hushes_11 : decode cX6_hushes 11 = .ok (.iconst 0, 1) := by decide +kernel
theorem dX6_hushes_12 : decode cX6_hushes 12 = .ok (.istore 6, 2) := by decide +kernel
theorem dX6_hushes_14 : decode cX6_hushes 14 = .ok (.iload 6, 2) := by decide +kernel
theorem dX6_hushes_16 : decode cX6_hushes 16 = .ok (.iconst 1, 1) := by decide +kernel
theorem dX6_hushes_17 : decode cX6_hushes 17 = .ok (.aload_n 0, 1) := by decide +kernel
theorem dX6_hushes_18 : decode cX6_hushes 18 = .ok (.getfield 73, 3) := by decide +kernel
theorem dX6_hushes_21 : decode cX6_hushes 21 = .ok (.ishl, 1) := by decide +kernel
theorem dX6_hushes_22 : decode cX6_hushes 22 = .ok (.if_icmp .ge 100, 3) := by decide +kernel
theorem dX6_hushes_25 : decode cX6_hushes 25 = .ok (.iload 6, 2) := by decide +kernel
theorem dX6_hushes_27 : decode cX6_hushes 27 = .ok (.iload 5, 2) := by decide +kernel
theorem dX6_hushes_29 : decode cX6_hushes 29 = .ok (.iconst (-1), 1) := by decide +kernel
theorem dX6_hushes_30 : decode cX6_hushes 30 = .ok (.ixor, 1) := by decide +kernel
theorem dX6_hushes_31 : decode cX6_hushes 31 = .ok (.iand, 1) := by decide +kernel
theorem dX6_hushes_32 : decode cX6_hushes 32 = .ok (.ifCond .ne 23, 3) := by decide +kernel
theorem dX6_hushes_35 : decode cX6_hushes 35 = .ok (.aload_n 0, 1) := by decide +kernel
theorem dX6_hushes_36 : decode cX6_hushes 36 = .ok (.iload 5, 2) := by decide +kernel
theorem dX6_hushes_38 : decode cX6_hushes 38 = .ok (.iload 6, 2) := by decide +kernel
theorem dX6_hushes_40 : decode cX6_hushes 40 = .ok (.iconst (-1), 1) := by decide +kernel
theorem dX6_hushes_41 : decode cX6_hushes 41 = .ok (.ixor, 1) := by decide +kernel
theorem dX6_hushes_42 : decode cX6_hushes 42 = .ok (.iand, 1) := by decide +kernel
theorem dX6_hushes_43 : decode cX6_hushes 43 = .ok (.invokevirtual 186, 3) := by decide +kernel
theorem dX6_hushes_46 : decode cX6_hushes 46 = .ok (.iload_n 1, 1) := by decide +kernel
theorem dX6_hushes_47 : decode cX6_hushes 47 = .ok (.iand, 1) := by decide +kernel
theorem dX6_hushes_48 : decode cX6_hushes 48 = .ok (.ifCond .ne 7, 3) := by decide +kernel
theorem dX6_hushes_51 : decode cX6_hushes 51 = .ok (.iconst 1, 1) := by decide +kernel
theorem dX6_hushes_52 : decode cX6_hushes 52 = .ok (.goto 4, 3) := by decide +kernel
theorem dX6_hushes_55 : decode cX6_hushes 55 = .ok (.iconst 0, 1) := by decide +kernel
theorem dX6_hushes_56 : decode cX6_hushes 56 = .ok (.istore 7, 2) := by decide +kernel
theorem dX6_hushes_58 : decode cX6_hushes 58 = .ok (.iload 7, 2) := by decide +kernel
theorem dX6_hushes_60 : decode cX6_hushes 60 = .ok (.ifCond .eq 23, 3) := by decide +kernel
theorem dX6_hushes_63 : decode cX6_hushes 63 = .ok (.iload 4, 2) := by decide +kernel
theorem dX6_hushes_65 : decode cX6_hushes 65 = .ok (.ifCond .lt 14, 3) := by decide +kernel
theorem dX6_hushes_68 : decode cX6_hushes 68 = .ok (.aload_n 0, 1) := by decide +kernel
theorem dX6_hushes_69 : decode cX6_hushes 69 = .ok (.iload 6, 2) := by decide +kernel
theorem dX6_hushes_71 : decode cX6_hushes 71 = .ok (.invokevirtual 189, 3) := by decide +kernel
theorem dX6_hushes_74 : decode cX6_hushes 74 = .ok (.iload 4, 2) := by decide +kernel
theorem dX6_hushes_76 : decode cX6_hushes 76 = .ok (.if_icmp .ge 7, 3) := by decide +kernel
theorem dX6_hushes_79 : decode cX6_hushes 79 = .ok (.iconst 1, 1) := by decide +kernel
theorem dX6_hushes_80 : decode cX6_hushes 80 = .ok (.goto 4, 3) := by decide +kernel
theorem dX6_hushes_83 : decode cX6_hushes 83 = .ok (.iconst 0, 1) := by decide +kernel
theorem dX6_hushes_84 : decode cX6_hushes 84 = .ok (.istore 8, 2) := by decide +kernel
theorem dX6_hushes_86 : decode cX6_hushes 86 = .ok (.iload 8, 2) := by decide +kernel
theorem dX6_hushes_88 : decode cX6_hushes 88 = .ok (.ifCond .eq 8, 3) := by decide +kernel
theorem dX6_hushes_91 : decode cX6_hushes 91 = .ok (.iload 6, 2) := by decide +kernel
theorem dX6_hushes_93 : decode cX6_hushes 93 = .ok (.goto 4, 3) := by decide +kernel
theorem dX6_hushes_96 : decode cX6_hushes 96 = .ok (.iload_n 3, 1) := by decide +kernel
theorem dX6_hushes_97 : decode cX6_hushes 97 = .ok (.istore_n 3, 1) := by decide +kernel
theorem dX6_hushes_98 : decode cX6_hushes 98 = .ok (.iload 8, 2) := by decide +kernel
theorem dX6_hushes_100 : decode cX6_hushes 100 = .ok (.ifCond .eq 12, 3) := by decide +kernel
theorem dX6_hushes_103 : decode cX6_hushes 103 = .ok (.aload_n 0, 1) := by decide +kernel
theorem dX6_hushes_104 : decode cX6_hushes 104 = .ok (.iload 6, 2) := by decide +kernel
theorem dX6_hushes_106 : decode cX6_hushes 106 = .ok (.invokevirtual 189, 3) := by decide +kernel
theorem dX6_hushes_109 : decode cX6_hushes 109 = .ok (.goto 5, 3) := by decide +kernel
theorem dX6_hushes_112 : decode cX6_hushes 112 = .ok (.iload 4, 2) := by decide +kernel
theorem dX6_hushes_114 : decode cX6_hushes 114 = .ok (.istore 4, 2) := by decide +kernel
theorem dX6_hushes_116 : decode cX6_hushes 116 = .ok (.iinc 6 1, 3) := by decide +kernel
theorem dX6_hushes_119 : decode cX6_hushes 119 = .ok (.goto (-105), 3) := by decide +kernel
theorem dX6_hushes_122 : decode cX6_hushes 122 = .ok (.iload_n 2, 1) := by decide +kernel
theorem dX6_hushes_123 : decode cX6_hushes 123 = .ok (.ifCond .ne 8, 3) := by decide +kernel
theorem dX6_hushes_126 : decode cX6_hushes 126 = .ok (.iload 4, 2) := by decide +kernel
theorem dX6_hushes_128 : decode cX6_hushes 128 = .ok (.goto 4, 3) := by decide +kernel
theorem dX6_hushes_131 : decode cX6_hushes 131 = .ok (.iload_n 3, 1) := by decide +kernel
theorem dX6_hushes_132 : decode cX6_hushes 132 = .ok (.ireturn, 1) := by decide +kernel
set_option maxRecDepth 20000 in
theorem ggX6_hush_X6_isDeed : GoodIn wsX6_hush wsX6_isDeed := goodIn_r _ [6, 7, 8, 9, 5, 10, 70, 71, 72, 73, 74, 75, 76, 77, 78, 79, 80, 81, 82, 83, 84, 85, 86, 87, 88, 89, 90, 91, 92, 93] (by decide +kernel) (by decide +kernel)
set_option maxRecDepth 20000 in
theorem gX6_hush_X6_isDeed : GoodIn wsX6_hush (wsV RX6 171 RX6 yX6_isDeed wsX6_isDeed) := goodIn_app (goodIn_of _ (by decide +kernel)) ggX6_hush_X6_isDeed
set_option maxRecDepth 20000 in
theorem ggX6_hush_X6_in : GoodIn wsX6_hush wsX6_in := goodIn_r _ [10] (by decide +kernel) (by decide +kernel)
set_option maxRecDepth 20000 in
theorem gX6_hush_X6_in : GoodIn wsX6_hush (va_wsS RX6 76 yX6_in wsX6_in) := goodIn_app (goodIn_of _ (by decide +kernel)) ggX6_hush_X6_in
set_option maxRecDepth 20000 in
theorem ggX6_hush_X6_asItIs : GoodIn wsX6_hush wsX6_asItIs := goodIn_r _ [14, 15, 1, 16, 17, 5, 18, 70, 71, 72, 73, 74, 75, 76, 77, 78, 79, 80, 81, 82, 83, 84, 85, 86, 87, 88, 89, 90, 91, 92, 93] (by decide +kernel) (by decide +kernel)
set_option maxRecDepth 20000 in
theorem gX6_hush_X6_asItIs : GoodIn wsX6_hush (wsV RX6 168 RX6 yX6_asItIs wsX6_asItIs) := goodIn_app (goodIn_of _ (by decide +kernel)) ggX6_hush_X6_asItIs
set_option maxRecDepth 20000 in
theorem ggX6_hush_X6_has : GoodIn wsX6_hush wsX6_has := goodIn_r _ [21] (by decide +kernel) (by decide +kernel)
set_option maxRecDepth 20000 in
theorem gX6_hush_X6_has : GoodIn wsX6_hush (va_wsS RX6 155 yX6_has wsX6_has) := goodIn_app (goodIn_of _ (by decide +kernel)) ggX6_hush_X6_has
set_option maxRecDepth 20000 in
theorem ggX6_hush_X6_hushes : GoodIn wsX6_hush wsX6_hushes := goodIn_r _ [25, 26, 27, 28, 29, 5, 30, 31, 32, 33, 34, 15, 35, 36, 19, 20, 21, 37, 38, 39, 40, 41, 42, 43, 44, 7, 45, 46, 47, 48, 49, 50, 51, 52, 53, 54, 55, 56, 57, 58, 59, 60, 61, 62, 63, 64, 65, 66, 67, 68, 69, 70, 71, 72, 73, 74, 75, 76, 77, 78, 79, 80, 81, 82, 83, 84, 85, 86, 87, 88, 89, 90, 91, 92, 93] (by decide +kernel) (by decide +kernel)
set_option maxRecDepth 20000 in
theorem gX6_hush_X6_hushes : GoodIn wsX6_hush (wsV RX6 192 RX6 yX6_hushes wsX6_hushes) := goodIn_app (goodIn_of _ (by decide +kernel)) ggX6_hush_X6_hushes
theorem dX6_hush_0 : decode cX6_hush 0 = .ok (.aload_n 0, 1) := by decide +kernel
theorem dX6_hush_1 : decode cX6_hush 1 = .ok (.iload_n 1, 1) := by decide +kernel
theorem dX6_hush_2 : decode cX6_hush 2 = .ok (.invokevirtual 171, 3) := by decide +kernel
theorem dX6_hush_5 : decode cX6_hush 5 = .ok (.ifCond .eq 12, 3) := by decide +kernel
theorem dX6_hush_8 : decode cX6_hush 8 = .ok (.iload_n 2, 1) := by decide +kernel
theorem dX6_hush_9 : decode cX6_hush 9 = .ok (.iconst 0, 1) := by decide +kernel
theorem dX6_hush_10 : decode cX6_hush 10 = .ok (.iconst 1, 1) := by decide +kernel
theorem dX6_hush_11 : decode cX6_hush 11 = .ok (.invokestatic 76, 3) := by decide +kernel
theorem dX6_hush_14 : decode cX6_hush 14 = .ok (.ifCond .ne 5, 3) := by decide +kernel
theorem dX6_hush_17 : decode cX6_hush 17 = .ok (.iconst (-1), 1) := by decide +kernel
theorem dX6_hush_18 : decode cX6_hush 18 = .ok (.ireturn, 1) := by decide +kernel
theorem dX6_hush_19 : decode cX6_hush 19 = .ok (.aload_n 0, 1) := by decide +kernel
theorem dX6_hush_20 : decode cX6_hush 20 = .ok (.invokevirtual 168, 3) := by decide +kernel
theorem dX6_hush_23 : decode cX6_hush 23 = .ok (.aload_n 0, 1) := by decide +kernel
theorem dX6_hush_24 : decode cX6_hush 24 = .ok (.getfield 16, 3) := by decide +kernel
theorem dX6_hush_27 : decode cX6_hush 27 = .ok (.iconst 1, 1) := by decide +kernel
theorem dX6_hush_28 : decode cX6_hush 28 = .ok (.iaload, 1) := by decide +kernel
theorem dX6_hush_29 : decode cX6_hush 29 = .ok (.iload_n 1, 1) := by decide +kernel
theorem dX6_hush_30 : decode cX6_hush 30 = .ok (.invokestatic 155, 3) := by decide +kernel
theorem dX6_hush_33 : decode cX6_hush 33 = .ok (.ifCond .eq 8, 3) := by decide +kernel
theorem dX6_hush_36 : decode cX6_hush 36 = .ok (.bipush (-4), 2) := by decide +kernel
theorem dX6_hush_38 : decode cX6_hush 38 = .ok (.goto 11, 3) := by decide +kernel
theorem dX6_hush_41 : decode cX6_hush 41 = .ok (.aload_n 0, 1) := by decide +kernel
theorem dX6_hush_42 : decode cX6_hush 42 = .ok (.iconst 1, 1) := by decide +kernel
theorem dX6_hush_43 : decode cX6_hush 43 = .ok (.iload_n 1, 1) := by decide +kernel
theorem dX6_hush_44 : decode cX6_hush 44 = .ok (.ishl, 1) := by decide +kernel
theorem dX6_hush_45 : decode cX6_hush 45 = .ok (.iload_n 2, 1) := by decide +kernel
theorem dX6_hush_46 : decode cX6_hush 46 = .ok (.invokevirtual 192, 3) := by decide +kernel
theorem dX6_hush_49 : decode cX6_hush 49 = .ok (.ireturn, 1) := by decide +kernel
set_option maxRecDepth 20000 in
theorem ggX6_hushAll_X6_in : GoodIn wsX6_hushAll wsX6_in := goodIn_r _ [6] (by decide +kernel) (by decide +kernel)
set_option maxRecDepth 20000 in
theorem gX6_hushAll_X6_in : GoodIn wsX6_hushAll (va_wsS RX6 76 yX6_in wsX6_in) := goodIn_app (goodIn_of _ (by decide +kernel)) ggX6_hushAll_X6_in
set_option maxRecDepth 20000 in
theorem ggX6_hushAll_X6_asItIs : GoodIn wsX6_hushAll wsX6_asItIs := goodIn_r _ [10, 11, 2, 12, 13, 5, 14, 66, 67, 68, 69, 70, 71, 72, 73, 74, 75, 76, 77, 78, 79, 80, 81, 82, 83, 84, 85, 86, 87, 88, 89] (by decide +kernel) (by decide +kernel)
set_option maxRecDepth 20000 in
theorem gX6_hushAll_X6_asItIs : GoodIn wsX6_hushAll (wsV RX6 168 RX6 yX6_asItIs wsX6_asItIs) := goodIn_app (goodIn_of _ (by decide +kernel)) ggX6_hushAll_X6_asItIs
set_option maxRecDepth 20000 in
theorem ggX6_hushAll_X6_weighs : GoodIn wsX6_hushAll wsX6_weighs := goodIn_r _ [18, 19, 66, 67, 68, 69, 70, 71, 72, 73, 74, 75, 76, 77, 78, 79, 80, 81, 82, 83, 84, 85, 86, 87, 88, 89] (by decide +kernel) (by decide +kernel)
set_option maxRecDepth 20000 in
theorem gX6_hushAll_X6_weighs : GoodIn wsX6_hushAll (wsV RX6 149 RX6 yX6_weighs wsX6_weighs) := goodIn_app (goodIn_of _ (by decide +kernel)) ggX6_hushAll_X6_weighs
set_option maxRecDepth 20000 in
theorem ggX6_hushAll_X6_has : GoodIn wsX6_hushAll wsX6_has := goodIn_r _ [22] (by decide +kernel) (by decide +kernel)
set_option maxRecDepth 20000 in
theorem gX6_hushAll_X6_has : GoodIn wsX6_hushAll (va_wsS RX6 155 yX6_has wsX6_has) := goodIn_app (goodIn_of _ (by decide +kernel)) ggX6_hushAll_X6_has
set_option maxRecDepth 20000 in
theorem ggX6_hushAll_X6_hushes : GoodIn wsX6_hushAll wsX6_hushes := goodIn_r _ [26, 27, 28, 29, 30, 5, 31, 32, 33, 34, 35, 11, 36, 37, 20, 21, 22, 38, 39, 40, 41, 42, 43, 44, 45, 1, 46, 47, 48, 49, 50, 51, 52, 53, 19, 54, 55, 56, 57, 58, 59, 60, 61, 15, 16, 17, 18, 62, 63, 64, 65, 66, 67, 68, 69, 70, 71, 72, 73, 74, 75, 76, 77, 78, 79, 80, 81, 82, 83, 84, 85, 86, 87, 88, 89] (by decide +kernel) (by decide +kernel)
set_option maxRecDepth 20000 in
theorem gX6_hushAll_X6_hushes : GoodIn wsX6_hushAll (wsV RX6 192 RX6 yX6_hushes wsX6_hushes) := goodIn_app (goodIn_of _ (by decide +kernel)) ggX6_hushAll_X6_hushes
theorem dX6_hushAll_0 : decode cX6_hushAll 0 = .ok (.iload_n 1, 1) := by decide +kernel
theorem dX6_hushAll_1 : decode cX6_hushAll 1 = .ok (.iconst 1, 1) := by decide +kernel
theorem dX6_hushAll_2 : decode cX6_hushAll 2 = .ok (.bipush 30, 2) := by decide +kernel
theorem dX6_hushAll_4 : decode cX6_hushAll 4 = .ok (.invokestatic 76, 3) := by decide +kernel
theorem dX6_hushAll_7 : decode cX6_hushAll 7 = .ok (.ifCond .eq 12, 3) := by decide +kernel
theorem dX6_hushAll_10 : decode cX6_hushAll 10 = .ok (.iload_n 2, 1) := by decide +kernel
theorem dX6_hushAll_11 : decode cX6_hushAll 11 = .ok (.iconst 0, 1) := by decide +kernel
theorem dX6_hushAll_12 : decode cX6_hushAll 12 = .ok (.iconst 1, 1) := by decide +kernel
theorem dX6_hushAll_13 : decode cX6_hushAll 13 = .ok (.invokestatic 76, 3) := by decide +kernel
theorem dX6_hushAll_16 : decode cX6_hushAll 16 = .ok (.ifCond .ne 5, 3) := by decide +kernel
theorem dX6_hushAll_19 : decode cX6_hushAll 19 = .ok (.iconst (-1), 1) := by decide +kernel
theorem dX6_hushAll_20 : decode cX6_hushAll 20 = .ok (.ireturn, 1) := by decide +kernel
theorem dX6_hushAll_21 : decode cX6_hushAll 21 = .ok (.aload_n 0, 1) := by decide +kernel
theorem dX6_hushAll_22 : decode cX6_hushAll 22 = .ok (.invokevirtual 168, 3) := by decide +kernel
theorem dX6_hushAll_25 : decode cX6_hushAll 25 = .ok (.iconst 0, 1) := by decide +kernel
theorem dX6_hushAll_26 : decode cX6_hushAll 26 = .ok (.istore_n 3, 1) := by decide +kernel
theorem dX6_hushAll_27 : decode cX6_hushAll 27 = .ok (.iconst 0, 1) := by decide +kernel
theorem dX6_hushAll_28 : decode cX6_hushAll 28 = .ok (.istore 4, 2) := by decide +kernel
theorem dX6_hushAll_30 : decode cX6_hushAll 30 = .ok (.iload 4, 2) := by decide +kernel
theorem dX6_hushAll_32 : decode cX6_hushAll 32 = .ok (.aload_n 0, 1) := by decide +kernel
theorem dX6_hushAll_33 : decode cX6_hushAll 33 = .ok (.getfield 80, 3) := by decide +kernel
theorem dX6_hushAll_36 : decode cX6_hushAll 36 = .ok (.if_icmp .ge 44, 3) := by decide +kernel
theorem dX6_hushAll_39 : decode cX6_hushAll 39 = .ok (.iload_n 3, 1) := by decide +kernel
theorem dX6_hushAll_40 : decode cX6_hushAll 40 = .ok (.aload_n 0, 1) := by decide +kernel
theorem dX6_hushAll_41 : decode cX6_hushAll 41 = .ok (.iload 4, 2) := by decide +kernel
theorem dX6_hushAll_43 : decode cX6_hushAll 43 = .ok (.invokevirtual 149, 3) := by decide +kernel
theorem dX6_hushAll_46 : decode cX6_hushAll 46 = .ok (.iload_n 1, 1) := by decide +kernel
theorem dX6_hushAll_47 : decode cX6_hushAll 47 = .ok (.if_icmp .lt 24, 3) := by decide +kernel
theorem dX6_hushAll_50 : decode cX6_hushAll 50 = .ok (.aload_n 0, 1) := by decide +kernel
theorem dX6_hushAll_51 : decode cX6_hushAll 51 = .ok (.getfield 16, 3) := by decide +kernel
theorem dX6_hushAll_54 : decode cX6_hushAll 54 = .ok (.iconst 1, 1) := by decide +kernel
theorem dX6_hushAll_55 : decode cX6_hushAll 55 = .ok (.iaload, 1) := by decide +kernel
theorem dX6_hushAll_56 : decode cX6_hushAll 56 = .ok (.iload 4, 2) := by decide +kernel
theorem dX6_hushAll_58 : decode cX6_hushAll 58 = .ok (.invokestatic 155, 3) := by decide +kernel
theorem dX6_hushAll_61 : decode cX6_hushAll 61 = .ok (.ifCond .ne 10, 3) := by decide +kernel
theorem dX6_hushAll_64 : decode cX6_hushAll 64 = .ok (.iconst 1, 1) := by decide +kernel
theorem dX6_hushAll_65 : decode cX6_hushAll 65 = .ok (.iload 4, 2) := by decide +kernel
theorem dX6_hushAll_67 : decode cX6_hushAll 67 = .ok (.ishl, 1) := by decide +kernel
theorem dX6_hushAll_68 : decode cX6_hushAll 68 = .ok (.goto 4, 3) := by decide +kernel
theorem dX6_hushAll_71 : decode cX6_hushAll 71 = .ok (.iconst 0, 1) := by decide +kernel
theorem dX6_hushAll_72 : decode cX6_hushAll 72 = .ok (.ior, 1) := by decide +kernel
theorem dX6_hushAll_73 : decode cX6_hushAll 73 = .ok (.istore_n 3, 1) := by decide +kernel
theorem dX6_hushAll_74 : decode cX6_hushAll 74 = .ok (.iinc 4 1, 3) := by decide +kernel
theorem dX6_hushAll_77 : decode cX6_hushAll 77 = .ok (.goto (-47), 3) := by decide +kernel
theorem dX6_hushAll_80 : decode cX6_hushAll 80 = .ok (.aload_n 0, 1) := by decide +kernel
theorem dX6_hushAll_81 : decode cX6_hushAll 81 = .ok (.iload_n 3, 1) := by decide +kernel
theorem dX6_hushAll_82 : decode cX6_hushAll 82 = .ok (.iload_n 2, 1) := by decide +kernel
theorem dX6_hushAll_83 : decode cX6_hushAll 83 = .ok (.invokevirtual 192, 3) := by decide +kernel
theorem dX6_hushAll_86 : decode cX6_hushAll 86 = .ok (.ireturn, 1) := by decide +kernel
set_option maxRecDepth 20000 in
theorem ggX6_hushOne_X6_in : GoodIn wsX6_hushOne wsX6_in := goodIn_r _ [7] (by decide +kernel) (by decide +kernel)
set_option maxRecDepth 20000 in
theorem gX6_hushOne_X6_in : GoodIn wsX6_hushOne (va_wsS RX6 76 yX6_in wsX6_in) := goodIn_app (goodIn_of _ (by decide +kernel)) ggX6_hushOne_X6_in
set_option maxRecDepth 20000 in
theorem ggX6_hushOne_X6_asItIs : GoodIn wsX6_hushOne wsX6_asItIs := goodIn_r _ [11, 12, 3, 13, 14, 6, 15, 66, 67, 68, 69, 70, 71, 72, 73, 74, 75, 76, 77, 78, 79, 80, 81, 82, 83, 84, 85, 86, 87, 88, 89] (by decide +kernel) (by decide +kernel)
set_option maxRecDepth 20000 in
theorem gX6_hushOne_X6_asItIs : GoodIn wsX6_hushOne (wsV RX6 168 RX6 yX6_asItIs wsX6_asItIs) := goodIn_app (goodIn_of _ (by decide +kernel)) ggX6_hushOne_X6_asItIs
set_option maxRecDepth 20000 in
theorem ggX6_hushOne_X6_has : GoodIn wsX6_hushOne wsX6_has := goodIn_r _ [18] (by decide +kernel) (by decide +kernel)
set_option maxRecDepth 20000 in
theorem gX6_hushOne_X6_has : GoodIn wsX6_hushOne (va_wsS RX6 155 yX6_has wsX6_has) := goodIn_app (goodIn_of _ (by decide +kernel)) ggX6_hushOne_X6_has
set_option maxRecDepth 20000 in
theorem ggX6_hushOne_X6_hushes : GoodIn wsX6_hushOne wsX6_hushes := goodIn_r _ [22, 23, 24, 25, 26, 6, 27, 28, 29, 30, 31, 12, 32, 33, 16, 17, 18, 34, 35, 36, 37, 38, 39, 40, 41, 1, 42, 43, 44, 45, 46, 47, 48, 49, 2, 50, 51, 52, 53, 54, 55, 56, 57, 58, 59, 60, 61, 62, 63, 64, 65, 66, 67, 68, 69, 70, 71, 72, 73, 74, 75, 76, 77, 78, 79, 80, 81, 82, 83, 84, 85, 86, 87, 88, 89] (by decide +kernel) (by decide +kernel)
set_option maxRecDepth 20000 in
theorem gX6_hushOne_X6_hushes : GoodIn wsX6_hushOne (wsV RX6 192 RX6 yX6_hushes wsX6_hushes) := goodIn_app (goodIn_of _ (by decide +kernel)) ggX6_hushOne_X6_hushes
theorem dX6_hushOne_0 : decode cX6_hushOne 0 = .ok (.iload_n 1, 1) := by decide +kernel
theorem dX6_hushOne_1 : decode cX6_hushOne 1 = .ok (.iconst 0, 1) := by decide +kernel
theorem dX6_hushOne_2 : decode cX6_hushOne 2 = .ok (.iconst 5, 1) := by decide +kernel
theorem dX6_hushOne_3 : decode cX6_hushOne 3 = .ok (.invokestatic 76, 3) := by decide +kernel
theorem dX6_hushOne_6 : decode cX6_hushOne 6 = .ok (.ifCond .eq 12, 3) := by decide +kernel
theorem dX6_hushOne_9 : decode cX6_hushOne 9 = .ok (.iload_n 2, 1) := by decide +kernel
theorem dX6_hushOne_10 : decode cX6_hushOne 10 = .ok (.iconst 0, 1) := by decide +kernel
theorem dX6_hushOne_11 : decode cX6_hushOne 11 = .ok (.iconst 1, 1) := by decide +kernel
theorem dX6_hushOne_12 : decode cX6_hushOne 12 = .ok (.invokestatic 76, 3) := by decide +kernel
theorem dX6_hushOne_15 : decode cX6_hushOne 15 = .ok (.ifCond .ne 5, 3) := by decide +kernel
theorem dX6_hushOne_18 : decode cX6_hushOne 18 = .ok (.iconst (-1), 1) := by decide +kernel
theorem dX6_hushOne_19 : decode cX6_hushOne 19 = .ok (.ireturn, 1) := by decide +kernel
theorem dX6_hushOne_20 : decode cX6_hushOne 20 = .ok (.aload_n 0, 1) := by decide +kernel
theorem dX6_hushOne_21 : decode cX6_hushOne 21 = .ok (.invokevirtual 168, 3) := by decide +kernel
theorem dX6_hushOne_24 : decode cX6_hushOne 24 = .ok (.iconst 0, 1) := by decide +kernel
theorem dX6_hushOne_25 : decode cX6_hushOne 25 = .ok (.istore_n 3, 1) := by decide +kernel
theorem dX6_hushOne_26 : decode cX6_hushOne 26 = .ok (.iconst 0, 1) := by decide +kernel
theorem dX6_hushOne_27 : decode cX6_hushOne 27 = .ok (.istore 4, 2) := by decide +kernel
theorem dX6_hushOne_29 : decode cX6_hushOne 29 = .ok (.iload 4, 2) := by decide +kernel
theorem dX6_hushOne_31 : decode cX6_hushOne 31 = .ok (.aload_n 0, 1) := by decide +kernel
theorem dX6_hushOne_32 : decode cX6_hushOne 32 = .ok (.getfield 80, 3) := by decide +kernel
theorem dX6_hushOne_35 : decode cX6_hushOne 35 = .ok (.if_icmp .ge 47, 3) := by decide +kernel
theorem dX6_hushOne_38 : decode cX6_hushOne 38 = .ok (.iload_n 3, 1) := by decide +kernel
theorem dX6_hushOne_39 : decode cX6_hushOne 39 = .ok (.aload_n 0, 1) := by decide +kernel
theorem dX6_hushOne_40 : decode cX6_hushOne 40 = .ok (.getfield 13, 3) := by decide +kernel
theorem dX6_hushOne_43 : decode cX6_hushOne 43 = .ok (.iconst 4, 1) := by decide +kernel
theorem dX6_hushOne_44 : decode cX6_hushOne 44 = .ok (.iload 4, 2) := by decide +kernel
theorem dX6_hushOne_46 : decode cX6_hushOne 46 = .ok (.imul, 1) := by decide +kernel
theorem dX6_hushOne_47 : decode cX6_hushOne 47 = .ok (.iaload, 1) := by decide +kernel
theorem dX6_hushOne_48 : decode cX6_hushOne 48 = .ok (.iload_n 1, 1) := by decide +kernel
theorem dX6_hushOne_49 : decode cX6_hushOne 49 = .ok (.if_icmp .ne 24, 3) := by decide +kernel
theorem dX6_hushOne_52 : decode cX6_hushOne 52 = .ok (.aload_n 0, 1) := by decide +kernel
theorem dX6_hushOne_53 : decode cX6_hushOne 53 = .ok (.getfield 16, 3) := by decide +kernel
theorem dX6_hushOne_56 : decode cX6_hushOne 56 = .ok (.iconst 1, 1) := by decide +kernel
theorem dX6_hushOne_57 : decode cX6_hushOne 57 = .ok (.iaload, 1) := by decide +kernel
theorem dX6_hushOne_58 : decode cX6_hushOne 58 = .ok (.iload 4, 2) := by decide +kernel
theorem dX6_hushOne_60 : decode cX6_hushOne 60 = .ok (.invokestatic 155, 3) := by decide +kernel
theorem dX6_hushOne_63 : decode cX6_hushOne 63 = .ok (.ifCond .ne 10, 3) := by decide +kernel
theorem dX6_hushOne_66 : decode cX6_hushOne 66 = .ok (.iconst 1, 1) := by decide +kernel
theorem dX6_hushOne_67 : decode cX6_hushOne 67 = .ok (.iload 4, 2) := by decide +kernel
theorem dX6_hushOne_69 : decode cX6_hushOne 69 = .ok (.ishl, 1) := by decide +kernel
theorem dX6_hushOne_70 : decode cX6_hushOne 70 = .ok (.goto 4, 3) := by decide +kernel
theorem dX6_hushOne_73 : decode cX6_hushOne 73 = .ok (.iconst 0, 1) := by decide +kernel
theorem dX6_hushOne_74 : decode cX6_hushOne 74 = .ok (.ior, 1) := by decide +kernel
theorem dX6_hushOne_75 : decode cX6_hushOne 75 = .ok (.istore_n 3, 1) := by decide +kernel
theorem dX6_hushOne_76 : decode cX6_hushOne 76 = .ok (.iinc 4 1, 3) := by decide +kernel
theorem dX6_hushOne_79 : decode cX6_hushOne 79 = .ok (.goto (-50), 3) := by decide +kernel
theorem dX6_hushOne_82 : decode cX6_hushOne 82 = .ok (.aload_n 0, 1) := by decide +kernel
theorem dX6_hushOne_83 : decode cX6_hushOne 83 = .ok (.iload_n 3, 1) := by decide +kernel
theorem dX6_hushOne_84 : decode cX6_hushOne 84 = .ok (.iload_n 2, 1) := by decide +kernel
theorem dX6_hushOne_85 : decode cX6_hushOne 85 = .ok (.invokevirtual 192, 3) := by decide +kernel
theorem dX6_hushOne_88 : decode cX6_hushOne 88 = .ok (.ireturn, 1) := by decide +kernel
set_option maxRecDepth 20000 in
theorem ggX6_save_X6_in : GoodIn wsX6_save wsX6_in := goodIn_r _ [6] (by decide +kernel) (by decide +kernel)
set_option maxRecDepth 20000 in
theorem gX6_save_X6_in : GoodIn wsX6_save (va_wsS RX6 76 yX6_in wsX6_in) := goodIn_app (goodIn_of _ (by decide +kernel)) ggX6_save_X6_in
set_option maxRecDepth 20000 in
theorem ggX6_save_X6_asItIs : GoodIn wsX6_save wsX6_asItIs := goodIn_r _ [10, 11, 2, 12, 13, 5, 14, 66, 67, 68, 69, 70, 71, 72, 73, 74, 75, 76, 77, 78, 79, 80, 81, 82, 83, 84, 85, 86, 87, 88, 89] (by decide +kernel) (by decide +kernel)
set_option maxRecDepth 20000 in
theorem gX6_save_X6_asItIs : GoodIn wsX6_save (wsV RX6 168 RX6 yX6_asItIs wsX6_asItIs) := goodIn_app (goodIn_of _ (by decide +kernel)) ggX6_save_X6_asItIs
set_option maxRecDepth 20000 in
theorem ggX6_save_X6_loose : GoodIn wsX6_save wsX6_loose := goodIn_r _ [18, 1, 19, 20, 21, 5, 22, 11, 23, 24, 25, 26, 27, 66, 67, 68, 69, 70, 71, 72, 73, 74, 75, 76, 77, 78, 79, 80, 81, 82, 83, 84, 85, 86, 87, 88, 89] (by decide +kernel) (by decide +kernel)
set_option maxRecDepth 20000 in
theorem gX6_save_X6_loose : GoodIn wsX6_save (wsV RX6 183 RX6 yX6_loose wsX6_loose) := goodIn_app (goodIn_of _ (by decide +kernel)) ggX6_save_X6_loose
set_option maxRecDepth 20000 in
theorem ggX6_save_X6_priceOf : GoodIn wsX6_save wsX6_priceOf := goodIn_r _ [31, 1, 24, 25, 26, 5, 27, 66, 67, 68, 69, 70, 71, 72, 73, 74, 75, 76, 77, 78, 79, 80, 81, 82, 83, 84, 85, 86, 87, 88, 89] (by decide +kernel) (by decide +kernel)
set_option maxRecDepth 20000 in
theorem gX6_save_X6_priceOf : GoodIn wsX6_save (wsV RX6 189 RX6 yX6_priceOf wsX6_priceOf) := goodIn_app (goodIn_of _ (by decide +kernel)) ggX6_save_X6_priceOf
set_option maxRecDepth 20000 in
theorem ggX6_save_X6_toldByAll : GoodIn wsX6_save wsX6_toldByAll := goodIn_r _ [35, 1, 25, 26, 5, 27, 36, 37, 38, 39, 40, 41, 42, 43, 44, 11, 24, 45, 46, 47, 48, 49, 50, 51, 52, 53, 54, 55, 56, 57, 58, 59, 60, 61, 66, 67, 68, 69, 70, 71, 72, 73, 74, 75, 76, 77, 78, 79, 80, 81, 82, 83, 84, 85, 86, 87, 88, 89] (by decide +kernel) (by decide +kernel)
set_option maxRecDepth 20000 in
theorem gX6_save_X6_toldByAll : GoodIn wsX6_save (wsV RX6 186 RX6 yX6_toldByAll wsX6_toldByAll) := goodIn_app (goodIn_of _ (by decide +kernel)) ggX6_save_X6_toldByAll
set_option maxRecDepth 20000 in
theorem ggX6_save_X6_allWeigh : GoodIn wsX6_save wsX6_allWeigh := goodIn_r _ [65, 40, 25, 26, 5, 27, 58, 59, 60, 61, 49, 66, 67, 68, 69, 70, 71, 72, 73, 74, 75, 76, 77, 78, 79, 80, 81, 82, 83, 84, 85, 86, 87, 88, 89] (by decide +kernel) (by decide +kernel)
set_option maxRecDepth 20000 in
theorem gX6_save_X6_allWeigh : GoodIn wsX6_save (wsV RX6 195 RX6 yX6_allWeigh wsX6_allWeigh) := goodIn_app (goodIn_of _ (by decide +kernel)) ggX6_save_X6_allWeigh
theorem dX6_save_0 : decode cX6_save 0 = .ok (.iload_n 1, 1) := by decide +kernel
theorem dX6_save_1 : decode cX6_save 1 = .ok (.iconst 0, 1) := by decide +kernel
theorem dX6_save_2 : decode cX6_save 2 = .ok (.iconst 1, 1) := by decide +kernel
theorem dX6_save_3 : decode cX6_save 3 = .ok (.invokestatic 76, 3) := by decide +kernel
theorem dX6_save_6 : decode cX6_save 6 = .ok (.ifCond .ne 5, 3) := by decide +kernel
theorem dX6_save_9 : decode cX6_save 9 = .ok (.iconst (-1), 1) := by decide +kernel
theorem dX6_save_10 : decode cX6_save 10 = .ok (.ireturn, 1) := by decide +kernel
theorem dX6_save_11 : decode cX6_save 11 = .ok (.aload_n 0, 1) := by decide +kernel
theorem dX6_save_12 : decode cX6_save 12 = .ok (.invokevirtual 168, 3) := by decide +kernel
theorem dX6_save_15 : decode cX6_save 15 = .ok (.iconst 0, 1) := by decide +kernel
theorem dX6_save_16 : decode cX6_save 16 = .ok (.istore_n 2, 1) := by decide +kernel
theorem dX6_save_17 : decode cX6_save 17 = .ok (.iconst (-1), 1) := by decide +kernel
theorem dX6_save_18 : decode cX6_save 18 = .ok (.istore_n 3, 1) := by decide +kernel
theorem dX6_save_19 : decode cX6_save 19 = .ok (.aload_n 0, 1) := by decide +kernel
theorem dX6_save_20 : decode cX6_save 20 = .ok (.invokevirtual 183, 3) := by decide +kernel
theorem dX6_save_23 : decode cX6_save 23 = .ok (.istore 4, 2) := by decide +kernel
theorem dX6_save_25 : decode cX6_save 25 = .ok (.iconst 0, 1) := by decide +kernel
theorem dX6_save_26 : decode cX6_save 26 = .ok (.istore 5, 2) := by decide +kernel
theorem dX6_save_28 : decode cX6_save 28 = .ok (.iload 5, 2) := by decide +kernel
theorem dX6_save_30 : decode cX6_save 30 = .ok (.iconst 1, 1) := by decide +kernel
theorem dX6_save_31 : decode cX6_save 31 = .ok (.aload_n 0, 1) := by decide +kernel
theorem dX6_save_32 : decode cX6_save 32 = .ok (.getfield 73, 3) := by decide +kernel
theorem dX6_save_35 : decode cX6_save 35 = .ok (.ishl, 1) := by decide +kernel
theorem dX6_save_36 : decode cX6_save 36 = .ok (.if_icmp .ge 94, 3) := by decide +kernel
theorem dX6_save_39 : decode cX6_save 39 = .ok (.iload 5, 2) := by decide +kernel
theorem dX6_save_41 : decode cX6_save 41 = .ok (.iload 4, 2) := by decide +kernel
theorem dX6_save_43 : decode cX6_save 43 = .ok (.iconst (-1), 1) := by decide +kernel
theorem dX6_save_44 : decode cX6_save 44 = .ok (.ixor, 1) := by decide +kernel
theorem dX6_save_45 : decode cX6_save 45 = .ok (.iand, 1) := by decide +kernel
theorem dX6_save_46 : decode cX6_save 46 = .ok (.ifCond .ne 78, 3) := by decide +kernel
theorem dX6_save_49 : decode cX6_save 49 = .ok (.aload_n 0, 1) := by decide +kernel
theorem dX6_save_50 : decode cX6_save 50 = .ok (.iload 5, 2) := by decide +kernel
theorem dX6_save_52 : decode cX6_save 52 = .ok (.invokevirtual 189, 3) := by decide +kernel
theorem dX6_save_55 : decode cX6_save 55 = .ok (.aload_n 0, 1) := by decide +kernel
theorem dX6_save_56 : decode cX6_save 56 = .ok (.getfield 16, 3) := by decide +kernel
theorem dX6_save_59 : decode cX6_save 59 = .ok (.iconst 0, 1) := by decide +kernel
theorem dX6_save_60 : decode cX6_save 60 = .ok (.iaload, 1) := by decide +kernel
theorem dX6_save_61 : decode cX6_save 61 = .ok (.if_icmp .gt 63, 3) := by decide +kernel
theorem dX6_save_64 : decode cX6_save 64 = .ok (.aload_n 0, 1) := by decide +kernel
theorem dX6_save_65 : decode cX6_save 65 = .ok (.aload_n 0, 1) := by decide +kernel
theorem dX6_save_66 : decode cX6_save 66 = .ok (.iload 4, 2) := by decide +kernel
theorem dX6_save_68 : decode cX6_save 68 = .ok (.iload 5, 2) := by decide +kernel
theorem dX6_save_70 : decode cX6_save 70 = .ok (.iconst (-1), 1) := by decide +kernel
theorem dX6_save_71 : decode cX6_save 71 = .ok (.ixor, 1) := by decide +kernel
theorem dX6_save_72 : decode cX6_save 72 = .ok (.iand, 1) := by decide +kernel
theorem dX6_save_73 : decode cX6_save 73 = .ok (.invokevirtual 186, 3) := by decide +kernel
theorem dX6_save_76 : decode cX6_save 76 = .ok (.aload_n 0, 1) := by decide +kernel
theorem dX6_save_77 : decode cX6_save 77 = .ok (.getfield 16, 3) := by decide +kernel
theorem dX6_save_80 : decode cX6_save 80 = .ok (.iconst 1, 1) := by decide +kernel
theorem dX6_save_81 : decode cX6_save 81 = .ok (.iaload, 1) := by decide +kernel
theorem dX6_save_82 : decode cX6_save 82 = .ok (.iconst (-1), 1) := by decide +kernel
theorem dX6_save_83 : decode cX6_save 83 = .ok (.ixor, 1) := by decide +kernel
theorem dX6_save_84 : decode cX6_save 84 = .ok (.iand, 1) := by decide +kernel
theorem dX6_save_85 : decode cX6_save 85 = .ok (.invokevirtual 195, 3) := by decide +kernel
theorem dX6_save_88 : decode cX6_save 88 = .ok (.istore 6, 2) := by decide +kernel
theorem dX6_save_90 : decode cX6_save 90 = .ok (.iload_n 3, 1) := by decide +kernel
theorem dX6_save_91 : decode cX6_save 91 = .ok (.ifCond .lt 9, 3) := by decide +kernel
theorem dX6_save_94 : decode cX6_save 94 = .ok (.iload 6, 2) := by decide +kernel
theorem dX6_save_96 : decode cX6_save 96 = .ok (.iload_n 3, 1) := by decide +kernel
theorem dX6_save_97 : decode cX6_save 97 = .ok (.if_icmp .ge 8, 3) := by decide +kernel
theorem dX6_save_100 : decode cX6_save 100 = .ok (.iload 5, 2) := by decide +kernel
theorem dX6_save_102 : decode cX6_save 102 = .ok (.goto 4, 3) := by decide +kernel
theorem dX6_save_105 : decode cX6_save 105 = .ok (.iload_n 2, 1) := by decide +kernel
theorem dX6_save_106 : decode cX6_save 106 = .ok (.istore_n 2, 1) := by decide +kernel
theorem dX6_save_107 : decode cX6_save 107 = .ok (.iload_n 3, 1) := by decide +kernel
theorem dX6_save_108 : decode cX6_save 108 = .ok (.ifCond .lt 9, 3) := by decide +kernel
theorem dX6_save_111 : decode cX6_save 111 = .ok (.iload 6, 2) := by decide +kernel
theorem dX6_save_113 : decode cX6_save 113 = .ok (.iload_n 3, 1) := by decide +kernel
theorem dX6_save_114 : decode cX6_save 114 = .ok (.if_icmp .ge 8, 3) := by decide +kernel
theorem dX6_save_117 : decode cX6_save 117 = .ok (.iload 6, 2) := by decide +kernel
theorem dX6_save_119 : decode cX6_save 119 = .ok (.goto 4, 3) := by decide +kernel
theorem dX6_save_122 : decode cX6_save 122 = .ok (.iload_n 3, 1) := by decide +kernel
theorem dX6_save_123 : decode cX6_save 123 = .ok (.istore_n 3, 1) := by decide +kernel
theorem dX6_save_124 : decode cX6_save 124 = .ok (.iinc 5 1, 3) := by decide +kernel
theorem dX6_save_127 : decode cX6_save 127 = .ok (.goto (-99), 3) := by decide +kernel
theorem dX6_save_130 : decode cX6_save 130 = .ok (.iload_n 1, 1) := by decide +kernel
theorem dX6_save_131 : decode cX6_save 131 = .ok (.ifCond .ne 7, 3) := by decide +kernel
theorem dX6_save_134 : decode cX6_save 134 = .ok (.iload_n 3, 1) := by decide +kernel
theorem dX6_save_135 : decode cX6_save 135 = .ok (.goto 4, 3) := by decide +kernel
theorem dX6_save_138 : decode cX6_save 138 = .ok (.iload_n 2, 1) := by decide +kernel
theorem dX6_save_139 : decode cX6_save 139 = .ok (.ireturn, 1) := by decide +kernel
set_option maxRecDepth 20000 in
theorem ggX6_together_X6_isPiece : GoodIn wsX6_together wsX6_isPiece := goodIn_r _ [5, 6, 7, 8, 4, 9, 46, 47, 48, 49, 50, 51, 52, 53, 54, 55, 56, 57, 58, 59, 60, 61, 62, 63, 64, 65, 66, 67, 68, 69] (by decide +kernel) (by decide +kernel)
set_option maxRecDepth 20000 in
theorem gX6_together_X6_isPiece : GoodIn wsX6_together (wsV RX6 165 RX6 yX6_isPiece wsX6_isPiece) := goodIn_app (goodIn_of _ (by decide +kernel)) ggX6_together_X6_isPiece
set_option maxRecDepth 20000 in
theorem ggX6_together_X6_asItIs : GoodIn wsX6_together wsX6_asItIs := goodIn_r _ [13, 14, 15, 16, 17, 4, 18, 46, 47, 48, 49, 50, 51, 52, 53, 54, 55, 56, 57, 58, 59, 60, 61, 62, 63, 64, 65, 66, 67, 68, 69] (by decide +kernel) (by decide +kernel)
set_option maxRecDepth 20000 in
theorem gX6_together_X6_asItIs : GoodIn wsX6_together (wsV RX6 168 RX6 yX6_asItIs wsX6_asItIs) := goodIn_app (goodIn_of _ (by decide +kernel)) ggX6_together_X6_asItIs
set_option maxRecDepth 20000 in
theorem ggX6_together_X6_toldBy : GoodIn wsX6_together wsX6_toldBy := goodIn_r _ [22, 23, 24, 25, 26, 4, 27, 14, 28, 29, 30, 31, 32, 33, 34, 35, 36, 37, 38, 39, 40, 41, 42, 43, 44, 45, 46, 47, 48, 49, 50, 51, 52, 53, 54, 55, 56, 57, 58, 59, 60, 61, 62, 63, 64, 65, 66, 67, 68, 69] (by decide +kernel) (by decide +kernel)
set_option maxRecDepth 20000 in
theorem gX6_together_X6_toldBy : GoodIn wsX6_together (wsV RX6 162 RX6 yX6_toldBy wsX6_toldBy) := goodIn_app (goodIn_of _ (by decide +kernel)) ggX6_together_X6_toldBy
theorem dX6_together_0 : decode cX6_together 0 = .ok (.aload_n 0, 1) := by decide +kernel
theorem dX6_together_1 : decode cX6_together 1 = .ok (.iload_n 1, 1) := by decide +kernel
theorem dX6_together_2 : decode cX6_together 2 = .ok (.invokevirtual 165, 3) := by decide +kernel
theorem dX6_together_5 : decode cX6_together 5 = .ok (.ifCond .eq 16, 3) := by decide +kernel
theorem dX6_together_8 : decode cX6_together 8 = .ok (.aload_n 0, 1) := by decide +kernel
theorem dX6_together_9 : decode cX6_together 9 = .ok (.iload_n 2, 1) := by decide +kernel
theorem dX6_together_10 : decode cX6_together 10 = .ok (.invokevirtual 165, 3) := by decide +kernel
theorem dX6_together_13 : decode cX6_together 13 = .ok (.ifCond .eq 8, 3) := by decide +kernel
theorem dX6_together_16 : decode cX6_together 16 = .ok (.iload_n 1, 1) := by decide +kernel
theorem dX6_together_17 : decode cX6_together 17 = .ok (.iload_n 2, 1) := by decide +kernel
theorem dX6_together_18 : decode cX6_together 18 = .ok (.if_icmp .ne 5, 3) := by decide +kernel
theorem dX6_together_21 : decode cX6_together 21 = .ok (.iconst (-1), 1) := by decide +kernel
theorem dX6_together_22 : decode cX6_together 22 = .ok (.ireturn, 1) := by decide +kernel
theorem dX6_together_23 : decode cX6_together 23 = .ok (.aload_n 0, 1) := by decide +kernel
theorem dX6_together_24 : decode cX6_together 24 = .ok (.invokevirtual 168, 3) := by decide +kernel
theorem dX6_together_27 : decode cX6_together 27 = .ok (.aload_n 0, 1) := by decide +kernel
theorem dX6_together_28 : decode cX6_together 28 = .ok (.iload_n 1, 1) := by decide +kernel
theorem dX6_together_29 : decode cX6_together 29 = .ok (.invokevirtual 162, 3) := by decide +kernel
theorem dX6_together_32 : decode cX6_together 32 = .ok (.aload_n 0, 1) := by decide +kernel
theorem dX6_together_33 : decode cX6_together 33 = .ok (.iload_n 2, 1) := by decide +kernel
theorem dX6_together_34 : decode cX6_together 34 = .ok (.invokevirtual 162, 3) := by decide +kernel
theorem dX6_together_37 : decode cX6_together 37 = .ok (.iand, 1) := by decide +kernel
theorem dX6_together_38 : decode cX6_together 38 = .ok (.ireturn, 1) := by decide +kernel
set_option maxRecDepth 20000 in
theorem ggX6_cover_X6_in : GoodIn wsX6_cover wsX6_in := goodIn_r _ [5] (by decide +kernel) (by decide +kernel)
set_option maxRecDepth 20000 in
theorem gX6_cover_X6_in : GoodIn wsX6_cover (va_wsS RX6 76 yX6_in wsX6_in) := goodIn_app (goodIn_of _ (by decide +kernel)) ggX6_cover_X6_in
set_option maxRecDepth 20000 in
theorem ggX6_cover_X6_asItIs : GoodIn wsX6_cover wsX6_asItIs := goodIn_r _ [9, 10, 11, 12, 13, 4, 14, 61, 62, 63, 64, 65, 66, 67, 68, 69, 70, 71, 72, 73, 74, 75, 76, 77, 78, 79, 80, 81, 82, 83, 84] (by decide +kernel) (by decide +kernel)
set_option maxRecDepth 20000 in
theorem gX6_cover_X6_asItIs : GoodIn wsX6_cover (wsV RX6 168 RX6 yX6_asItIs wsX6_asItIs) := goodIn_app (goodIn_of _ (by decide +kernel)) ggX6_cover_X6_asItIs
set_option maxRecDepth 20000 in
theorem ggX6_cover_X6_loose : GoodIn wsX6_cover wsX6_loose := goodIn_r _ [18, 1, 19, 20, 21, 4, 22, 10, 23, 24, 25, 26, 27, 61, 62, 63, 64, 65, 66, 67, 68, 69, 70, 71, 72, 73, 74, 75, 76, 77, 78, 79, 80, 81, 82, 83, 84] (by decide +kernel) (by decide +kernel)
set_option maxRecDepth 20000 in
theorem gX6_cover_X6_loose : GoodIn wsX6_cover (wsV RX6 183 RX6 yX6_loose wsX6_loose) := goodIn_app (goodIn_of _ (by decide +kernel)) ggX6_cover_X6_loose
set_option maxRecDepth 20000 in
theorem ggX6_cover_X6_toldByAll : GoodIn wsX6_cover wsX6_toldByAll := goodIn_r _ [31, 1, 25, 26, 4, 27, 32, 33, 34, 35, 36, 37, 38, 39, 40, 10, 24, 41, 42, 43, 44, 45, 46, 47, 48, 49, 50, 51, 52, 53, 54, 55, 56, 57, 61, 62, 63, 64, 65, 66, 67, 68, 69, 70, 71, 72, 73, 74, 75, 76, 77, 78, 79, 80, 81, 82, 83, 84] (by decide +kernel) (by decide +kernel)
set_option maxRecDepth 20000 in
theorem gX6_cover_X6_toldByAll : GoodIn wsX6_cover (wsV RX6 186 RX6 yX6_toldByAll wsX6_toldByAll) := goodIn_app (goodIn_of _ (by decide +kernel)) ggX6_cover_X6_toldByAll
set_option maxRecDepth 20000 in
theorem ggX6_cover_X6_bits : GoodIn wsX6_cover wsX6_bits := goodIn_r _ [60] (by decide +kernel) (by decide +kernel)
set_option maxRecDepth 20000 in
theorem gX6_cover_X6_bits : GoodIn wsX6_cover (va_wsS RX6 180 yX6_bits wsX6_bits) := goodIn_app (goodIn_of _ (by decide +kernel)) ggX6_cover_X6_bits
theorem dX6_cover_0 : decode cX6_cover 0 = .ok (.iload_n 1, 1) := by decide +kernel
theorem dX6_cover_1 : decode cX6_cover 1 = .ok (.iconst 0, 1) := by decide +kernel
theorem dX6_cover_2 : decode cX6_cover 2 = .ok (.iconst 1, 1) := by decide +kernel
theorem dX6_cover_3 : decode cX6_cover 3 = .ok (.invokestatic 76, 3) := by decide +kernel
theorem dX6_cover_6 : decode cX6_cover 6 = .ok (.ifCond .ne 5, 3) := by decide +kernel
theorem dX6_cover_9 : decode cX6_cover 9 = .ok (.iconst (-1), 1) := by decide +kernel
theorem dX6_cover_10 : decode cX6_cover 10 = .ok (.ireturn, 1) := by decide +kernel
theorem dX6_cover_11 : decode cX6_cover 11 = .ok (.aload_n 0, 1) := by decide +kernel
theorem dX6_cover_12 : decode cX6_cover 12 = .ok (.invokevirtual 168, 3) := by decide +kernel
theorem dX6_cover_15 : decode cX6_cover 15 = .ok (.aload_n 0, 1) := by decide +kernel
theorem dX6_cover_16 : decode cX6_cover 16 = .ok (.invokevirtual 183, 3) := by decide +kernel
theorem dX6_cover_19 : decode cX6_cover 19 = .ok (.istore_n 2, 1) := by decide +kernel
theorem dX6_cover_20 : decode cX6_cover 20 = .ok (.iload_n 2, 1) := by decide +kernel
theorem dX6_cover_21 : decode cX6_cover 21 = .ok (.istore_n 3, 1) := by decide +kernel
theorem dX6_cover_22 : decode cX6_cover 22 = .ok (.iconst 0, 1) := by decide +kernel
theorem dX6_cover_23 : decode cX6_cover 23 = .ok (.istore 4, 2) := by decide +kernel
theorem dX6_cover_25 : decode cX6_cover 25 = .ok (.iload 4, 2) := by decide +kernel
theorem dX6_cover_27 : decode cX6_cover 27 = .ok (.iconst 1, 1) := by decide +kernel
theorem dX6_cover_28 : decode cX6_cover 28 = .ok (.aload_n 0, 1) := by decide +kernel
theorem dX6_cover_29 : decode cX6_cover 29 = .ok (.getfield 73, 3) := by decide +kernel
theorem dX6_cover_32 : decode cX6_cover 32 = .ok (.ishl, 1) := by decide +kernel
theorem dX6_cover_33 : decode cX6_cover 33 = .ok (.if_icmp .ge 81, 3) := by decide +kernel
theorem dX6_cover_36 : decode cX6_cover 36 = .ok (.iload 4, 2) := by decide +kernel
theorem dX6_cover_38 : decode cX6_cover 38 = .ok (.iload_n 2, 1) := by decide +kernel
theorem dX6_cover_39 : decode cX6_cover 39 = .ok (.iconst (-1), 1) := by decide +kernel
theorem dX6_cover_40 : decode cX6_cover 40 = .ok (.ixor, 1) := by decide +kernel
theorem dX6_cover_41 : decode cX6_cover 41 = .ok (.iand, 1) := by decide +kernel
theorem dX6_cover_42 : decode cX6_cover 42 = .ok (.ifCond .ne 21, 3) := by decide +kernel
theorem dX6_cover_45 : decode cX6_cover 45 = .ok (.aload_n 0, 1) := by decide +kernel
theorem dX6_cover_46 : decode cX6_cover 46 = .ok (.iload 4, 2) := by decide +kernel
theorem dX6_cover_48 : decode cX6_cover 48 = .ok (.invokevirtual 186, 3) := by decide +kernel
theorem dX6_cover_51 : decode cX6_cover 51 = .ok (.aload_n 0, 1) := by decide +kernel
theorem dX6_cover_52 : decode cX6_cover 52 = .ok (.iload_n 2, 1) := by decide +kernel
theorem dX6_cover_53 : decode cX6_cover 53 = .ok (.invokevirtual 186, 3) := by decide +kernel
theorem dX6_cover_56 : decode cX6_cover 56 = .ok (.if_icmp .ne 7, 3) := by decide +kernel
theorem dX6_cover_59 : decode cX6_cover 59 = .ok (.iconst 1, 1) := by decide +kernel
theorem dX6_cover_60 : decode cX6_cover 60 = .ok (.goto 4, 3) := by decide +kernel
theorem dX6_cover_63 : decode cX6_cover 63 = .ok (.iconst 0, 1) := by decide +kernel
theorem dX6_cover_64 : decode cX6_cover 64 = .ok (.istore 5, 2) := by decide +kernel
theorem dX6_cover_66 : decode cX6_cover 66 = .ok (.iload 5, 2) := by decide +kernel
theorem dX6_cover_68 : decode cX6_cover 68 = .ok (.ifCond .eq 38, 3) := by decide +kernel
theorem dX6_cover_71 : decode cX6_cover 71 = .ok (.iload 4, 2) := by decide +kernel
theorem dX6_cover_73 : decode cX6_cover 73 = .ok (.invokestatic 180, 3) := by decide +kernel
theorem dX6_cover_76 : decode cX6_cover 76 = .ok (.iload_n 3, 1) := by decide +kernel
theorem dX6_cover_77 : decode cX6_cover 77 = .ok (.invokestatic 180, 3) := by decide +kernel
theorem dX6_cover_80 : decode cX6_cover 80 = .ok (.if_icmp .lt 21, 3) := by decide +kernel
theorem dX6_cover_83 : decode cX6_cover 83 = .ok (.iload 4, 2) := by decide +kernel
theorem dX6_cover_85 : decode cX6_cover 85 = .ok (.invokestatic 180, 3) := by decide +kernel
theorem dX6_cover_88 : decode cX6_cover 88 = .ok (.iload_n 3, 1) := by decide +kernel
theorem dX6_cover_89 : decode cX6_cover 89 = .ok (.invokestatic 180, 3) := by decide +kernel
theorem dX6_cover_92 : decode cX6_cover 92 = .ok (.if_icmp .ne 14, 3) := by decide +kernel
theorem dX6_cover_95 : decode cX6_cover 95 = .ok (.iload 4, 2) := by decide +kernel
theorem dX6_cover_97 : decode cX6_cover 97 = .ok (.iload_n 3, 1) := by decide +kernel
theorem dX6_cover_98 : decode cX6_cover 98 = .ok (.if_icmp .ge 8, 3) := by decide +kernel
theorem dX6_cover_101 : decode cX6_cover 101 = .ok (.iload 4, 2) := by decide +kernel
theorem dX6_cover_103 : decode cX6_cover 103 = .ok (.goto 4, 3) := by decide +kernel
theorem dX6_cover_106 : decode cX6_cover 106 = .ok (.iload_n 3, 1) := by decide +kernel
theorem dX6_cover_107 : decode cX6_cover 107 = .ok (.istore_n 3, 1) := by decide +kernel
theorem dX6_cover_108 : decode cX6_cover 108 = .ok (.iinc 4 1, 3) := by decide +kernel
theorem dX6_cover_111 : decode cX6_cover 111 = .ok (.goto (-86), 3) := by decide +kernel
theorem dX6_cover_114 : decode cX6_cover 114 = .ok (.iload_n 1, 1) := by decide +kernel
theorem dX6_cover_115 : decode cX6_cover 115 = .ok (.ifCond .ne 10, 3) := by decide +kernel
theorem dX6_cover_118 : decode cX6_cover 118 = .ok (.iload_n 3, 1) := by decide +kernel
theorem dX6_cover_119 : decode cX6_cover 119 = .ok (.invokestatic 180, 3) := by decide +kernel
theorem dX6_cover_122 : decode cX6_cover 122 = .ok (.goto 4, 3) := by decide +kernel
theorem dX6_cover_125 : decode cX6_cover 125 = .ok (.iload_n 3, 1) := by decide +kernel
theorem dX6_cover_126 : decode cX6_cover 126 = .ok (.ireturn, 1) := by decide +kernel
set_option maxRecDepth 20000 in
theorem ggX6_safe_X6_in : GoodIn wsX6_safe wsX6_in := goodIn_r _ [7] (by decide +kernel) (by decide +kernel)
set_option maxRecDepth 20000 in
theorem gX6_safe_X6_in : GoodIn wsX6_safe (va_wsS RX6 76 yX6_in wsX6_in) := goodIn_app (goodIn_of _ (by decide +kernel)) ggX6_safe_X6_in
set_option maxRecDepth 20000 in
theorem ggX6_safe_X6_asItIs : GoodIn wsX6_safe wsX6_asItIs := goodIn_r _ [11, 12, 13, 14, 15, 6, 16, 46, 47, 48, 49, 50, 51, 52, 53, 54, 55, 56, 57, 58, 59, 60, 61, 62, 63, 64, 65, 66, 67, 68, 69] (by decide +kernel) (by decide +kernel)
set_option maxRecDepth 20000 in
theorem gX6_safe_X6_asItIs : GoodIn wsX6_safe (wsV RX6 168 RX6 yX6_asItIs wsX6_asItIs) := goodIn_app (goodIn_of _ (by decide +kernel)) ggX6_safe_X6_asItIs
set_option maxRecDepth 20000 in
theorem ggX6_safe_X6_isLoose : GoodIn wsX6_safe wsX6_isLoose := goodIn_r _ [20, 12, 21, 22, 23, 24, 6, 25, 46, 47, 48, 49, 50, 51, 52, 53, 54, 55, 56, 57, 58, 59, 60, 61, 62, 63, 64, 65, 66, 67, 68, 69] (by decide +kernel) (by decide +kernel)
set_option maxRecDepth 20000 in
theorem gX6_safe_X6_isLoose : GoodIn wsX6_safe (wsV RX6 159 RX6 yX6_isLoose wsX6_isLoose) := goodIn_app (goodIn_of _ (by decide +kernel)) ggX6_safe_X6_isLoose
set_option maxRecDepth 20000 in
theorem ggX6_safe_X6_doesTell : GoodIn wsX6_safe wsX6_doesTell := goodIn_r _ [29, 12, 22, 30, 31, 32, 6, 33, 1, 34, 35, 36, 37, 38, 39, 40, 41, 42, 43, 44, 45, 46, 47, 48, 49, 50, 51, 52, 53, 54, 55, 56, 57, 58, 59, 60, 61, 62, 63, 64, 65, 66, 67, 68, 69] (by decide +kernel) (by decide +kernel)
set_option maxRecDepth 20000 in
theorem gX6_safe_X6_doesTell : GoodIn wsX6_safe (wsV RX6 152 RX6 yX6_doesTell wsX6_doesTell) := goodIn_app (goodIn_of _ (by decide +kernel)) ggX6_safe_X6_doesTell
theorem dX6_safe_0 : decode cX6_safe 0 = .ok (.iload_n 1, 1) := by decide +kernel
theorem dX6_safe_1 : decode cX6_safe 1 = .ok (.iconst 0, 1) := by decide +kernel
theorem dX6_safe_2 : decode cX6_safe 2 = .ok (.bipush 23, 2) := by decide +kernel
theorem dX6_safe_4 : decode cX6_safe 4 = .ok (.invokestatic 76, 3) := by decide +kernel
theorem dX6_safe_7 : decode cX6_safe 7 = .ok (.ifCond .eq 13, 3) := by decide +kernel
theorem dX6_safe_10 : decode cX6_safe 10 = .ok (.iload_n 2, 1) := by decide +kernel
theorem dX6_safe_11 : decode cX6_safe 11 = .ok (.iconst 1, 1) := by decide +kernel
theorem dX6_safe_12 : decode cX6_safe 12 = .ok (.bipush 30, 2) := by decide +kernel
theorem dX6_safe_14 : decode cX6_safe 14 = .ok (.invokestatic 76, 3) := by decide +kernel
theorem dX6_safe_17 : decode cX6_safe 17 = .ok (.ifCond .ne 5, 3) := by decide +kernel
theorem dX6_safe_20 : decode cX6_safe 20 = .ok (.iconst (-1), 1) := by decide +kernel
theorem dX6_safe_21 : decode cX6_safe 21 = .ok (.ireturn, 1) := by decide +kernel
theorem dX6_safe_22 : decode cX6_safe 22 = .ok (.aload_n 0, 1) := by decide +kernel
theorem dX6_safe_23 : decode cX6_safe 23 = .ok (.invokevirtual 168, 3) := by decide +kernel
theorem dX6_safe_26 : decode cX6_safe 26 = .ok (.iconst 0, 1) := by decide +kernel
theorem dX6_safe_27 : decode cX6_safe 27 = .ok (.istore_n 3, 1) := by decide +kernel
theorem dX6_safe_28 : decode cX6_safe 28 = .ok (.iconst 0, 1) := by decide +kernel
theorem dX6_safe_29 : decode cX6_safe 29 = .ok (.istore 4, 2) := by decide +kernel
theorem dX6_safe_31 : decode cX6_safe 31 = .ok (.iload 4, 2) := by decide +kernel
theorem dX6_safe_33 : decode cX6_safe 33 = .ok (.iconst 4, 1) := by decide +kernel
theorem dX6_safe_34 : decode cX6_safe 34 = .ok (.if_icmp .ge 129, 3) := by decide +kernel
theorem dX6_safe_37 : decode cX6_safe 37 = .ok (.aload_n 0, 1) := by decide +kernel
theorem dX6_safe_38 : decode cX6_safe 38 = .ok (.getfield 13, 3) := by decide +kernel
theorem dX6_safe_41 : decode cX6_safe 41 = .ok (.iconst 4, 1) := by decide +kernel
theorem dX6_safe_42 : decode cX6_safe 42 = .ok (.aload_n 0, 1) := by decide +kernel
theorem dX6_safe_43 : decode cX6_safe 43 = .ok (.getfield 80, 3) := by decide +kernel
theorem dX6_safe_46 : decode cX6_safe 46 = .ok (.imul, 1) := by decide +kernel
theorem dX6_safe_47 : decode cX6_safe 47 = .ok (.iconst 1, 1) := by decide +kernel
theorem dX6_safe_48 : decode cX6_safe 48 = .ok (.iadd, 1) := by decide +kernel
theorem dX6_safe_49 : decode cX6_safe 49 = .ok (.iload 4, 2) := by decide +kernel
theorem dX6_safe_51 : decode cX6_safe 51 = .ok (.iastore, 1) := by decide +kernel
theorem dX6_safe_52 : decode cX6_safe 52 = .ok (.aload_n 0, 1) := by decide +kernel
theorem dX6_safe_53 : decode cX6_safe 53 = .ok (.getfield 13, 3) := by decide +kernel
theorem dX6_safe_56 : decode cX6_safe 56 = .ok (.iconst 4, 1) := by decide +kernel
theorem dX6_safe_57 : decode cX6_safe 57 = .ok (.aload_n 0, 1) := by decide +kernel
theorem dX6_safe_58 : decode cX6_safe 58 = .ok (.getfield 80, 3) := by decide +kernel
theorem dX6_safe_61 : decode cX6_safe 61 = .ok (.imul, 1) := by decide +kernel
theorem dX6_safe_62 : decode cX6_safe 62 = .ok (.iconst 2, 1) := by decide +kernel
theorem dX6_safe_63 : decode cX6_safe 63 = .ok (.iadd, 1) := by decide +kernel
theorem dX6_safe_64 : decode cX6_safe 64 = .ok (.iload_n 1, 1) := by decide +kernel
theorem dX6_safe_65 : decode cX6_safe 65 = .ok (.iastore, 1) := by decide +kernel
theorem dX6_safe_66 : decode cX6_safe 66 = .ok (.aload_n 0, 1) := by decide +kernel
theorem dX6_safe_67 : decode cX6_safe 67 = .ok (.getfield 13, 3) := by decide +kernel
theorem dX6_safe_70 : decode cX6_safe 70 = .ok (.iconst 4, 1) := by decide +kernel
theorem dX6_safe_71 : decode cX6_safe 71 = .ok (.aload_n 0, 1) := by decide +kernel
theorem dX6_safe_72 : decode cX6_safe 72 = .ok (.getfield 80, 3) := by decide +kernel
theorem dX6_safe_75 : decode cX6_safe 75 = .ok (.imul, 1) := by decide +kernel
theorem dX6_safe_76 : decode cX6_safe 76 = .ok (.iconst 3, 1) := by decide +kernel
theorem dX6_safe_77 : decode cX6_safe 77 = .ok (.iadd, 1) := by decide +kernel
theorem dX6_safe_78 : decode cX6_safe 78 = .ok (.iload_n 2, 1) := by decide +kernel
theorem dX6_safe_79 : decode cX6_safe 79 = .ok (.iastore, 1) := by decide +kernel
theorem dX6_safe_80 : decode cX6_safe 80 = .ok (.iconst 1, 1) := by decide +kernel
theorem dX6_safe_81 : decode cX6_safe 81 = .ok (.istore 5, 2) := by decide +kernel
theorem dX6_safe_83 : decode cX6_safe 83 = .ok (.iconst 0, 1) := by decide +kernel
theorem dX6_safe_84 : decode cX6_safe 84 = .ok (.istore 6, 2) := by decide +kernel
theorem dX6_safe_86 : decode cX6_safe 86 = .ok (.iload 6, 2) := by decide +kernel
theorem dX6_safe_88 : decode cX6_safe 88 = .ok (.aload_n 0, 1) := by decide +kernel
theorem dX6_safe_89 : decode cX6_safe 89 = .ok (.getfield 73, 3) := by decide +kernel
theorem dX6_safe_92 : decode cX6_safe 92 = .ok (.if_icmp .ge 49, 3) := by decide +kernel
theorem dX6_safe_95 : decode cX6_safe 95 = .ok (.iload 5, 2) := by decide +kernel
theorem dX6_safe_97 : decode cX6_safe 97 = .ok (.ifCond .eq 35, 3) := by decide +kernel
theorem dX6_safe_100 : decode cX6_safe 100 = .ok (.aload_n 0, 1) := by decide +kernel
theorem dX6_safe_101 : decode cX6_safe 101 = .ok (.iload 6, 2) := by decide +kernel
theorem dX6_safe_103 : decode cX6_safe 103 = .ok (.invokevirtual 159, 3) := by decide +kernel
theorem dX6_safe_106 : decode cX6_safe 106 = .ok (.ifCond .eq 22, 3) := by decide +kernel
theorem dX6_safe_109 : decode cX6_safe 109 = .ok (.aload_n 0, 1) := by decide +kernel
theorem dX6_safe_110 : decode cX6_safe 110 = .ok (.iload 6, 2) := by decide +kernel
theorem dX6_safe_112 : decode cX6_safe 112 = .ok (.aload_n 0, 1) := by decide +kernel
theorem dX6_safe_113 : decode cX6_safe 113 = .ok (.getfield 80, 3) := by decide +kernel
theorem dX6_safe_116 : decode cX6_safe 116 = .ok (.aload_n 0, 1) := by decide +kernel
theorem dX6_safe_117 : decode cX6_safe 117 = .ok (.getfield 80, 3) := by decide +kernel
theorem dX6_safe_120 : decode cX6_safe 120 = .ok (.iconst 1, 1) := by decide +kernel
theorem dX6_safe_121 : decode cX6_safe 121 = .ok (.iadd, 1) := by decide +kernel
theorem dX6_safe_122 : decode cX6_safe 122 = .ok (.invokevirtual 152, 3) := by decide +kernel
theorem dX6_safe_125 : decode cX6_safe 125 = .ok (.ifCond .ne 7, 3) := by decide +kernel
theorem dX6_safe_128 : decode cX6_safe 128 = .ok (.iconst 1, 1) := by decide +kernel
theorem dX6_safe_129 : decode cX6_safe 129 = .ok (.goto 4, 3) := by decide +kernel
theorem dX6_safe_132 : decode cX6_safe 132 = .ok (.iconst 0, 1) := by decide +kernel
theorem dX6_safe_133 : decode cX6_safe 133 = .ok (.istore 5, 2) := by decide +kernel
theorem dX6_safe_135 : decode cX6_safe 135 = .ok (.iinc 6 1, 3) := by decide +kernel
theorem dX6_safe_138 : decode cX6_safe 138 = .ok (.goto (-52), 3) := by decide +kernel
theorem dX6_safe_141 : decode cX6_safe 141 = .ok (.iload_n 3, 1) := by decide +kernel
theorem dX6_safe_142 : decode cX6_safe 142 = .ok (.iload 5, 2) := by decide +kernel
theorem dX6_safe_144 : decode cX6_safe 144 = .ok (.ifCond .eq 10, 3) := by decide +kernel
theorem dX6_safe_147 : decode cX6_safe 147 = .ok (.iconst 1, 1) := by decide +kernel
theorem dX6_safe_148 : decode cX6_safe 148 = .ok (.iload 4, 2) := by decide +kernel
theorem dX6_safe_150 : decode cX6_safe 150 = .ok (.ishl, 1) := by decide +kernel
theorem dX6_safe_151 : decode cX6_safe 151 = .ok (.goto 4, 3) := by decide +kernel
theorem dX6_safe_154 : decode cX6_safe 154 = .ok (.iconst 0, 1) := by decide +kernel
theorem dX6_safe_155 : decode cX6_safe 155 = .ok (.ior, 1) := by decide +kernel
theorem dX6_safe_156 : decode cX6_safe 156 = .ok (.istore_n 3, 1) := by decide +kernel
theorem dX6_safe_157 : decode cX6_safe 157 = .ok (.iinc 4 1, 3) := by decide +kernel
theorem dX6_safe_160 : decode cX6_safe 160 = .ok (.goto (-129), 3) := by decide +kernel
theorem dX6_safe_163 : decode cX6_safe 163 = .ok (.iload_n 3, 1) := by decide +kernel
theorem dX6_safe_164 : decode cX6_safe 164 = .ok (.ireturn, 1) := by decide +kernel
set_option maxRecDepth 20000 in
theorem ggX6_dealer_X6_asItIs : GoodIn wsX6_dealer wsX6_asItIs := goodIn_r _ [7, 2, 8, 9, 10, 6, 11, 51, 52, 53, 54, 55, 56, 57, 58, 59, 60, 61, 62, 63, 64, 65, 66, 67, 68, 69, 70, 71, 72, 73, 74] (by decide +kernel) (by decide +kernel)
set_option maxRecDepth 20000 in
theorem gX6_dealer_X6_asItIs : GoodIn wsX6_dealer (wsV RX6 168 RX6 yX6_asItIs wsX6_asItIs) := goodIn_app (goodIn_of _ (by decide +kernel)) ggX6_dealer_X6_asItIs
set_option maxRecDepth 20000 in
theorem ggX6_dealer_X6_isLoose : GoodIn wsX6_dealer wsX6_isLoose := goodIn_r _ [15, 2, 16, 17, 18, 19, 6, 20, 51, 52, 53, 54, 55, 56, 57, 58, 59, 60, 61, 62, 63, 64, 65, 66, 67, 68, 69, 70, 71, 72, 73, 74] (by decide +kernel) (by decide +kernel)
set_option maxRecDepth 20000 in
theorem gX6_dealer_X6_isLoose : GoodIn wsX6_dealer (wsV RX6 159 RX6 yX6_isLoose wsX6_isLoose) := goodIn_app (goodIn_of _ (by decide +kernel)) ggX6_dealer_X6_isLoose
set_option maxRecDepth 20000 in
theorem ggX6_dealer_X6_toldBy : GoodIn wsX6_dealer wsX6_toldBy := goodIn_r _ [24, 25, 26, 27, 28, 6, 29, 2, 17, 30, 31, 32, 33, 34, 35, 36, 37, 38, 39, 40, 41, 42, 43, 44, 45, 46, 51, 52, 53, 54, 55, 56, 57, 58, 59, 60, 61, 62, 63, 64, 65, 66, 67, 68, 69, 70, 71, 72, 73, 74] (by decide +kernel) (by decide +kernel)
set_option maxRecDepth 20000 in
theorem gX6_dealer_X6_toldBy : GoodIn wsX6_dealer (wsV RX6 162 RX6 yX6_toldBy wsX6_toldBy) := goodIn_app (goodIn_of _ (by decide +kernel)) ggX6_dealer_X6_toldBy
set_option maxRecDepth 20000 in
theorem ggX6_dealer_X6_allWeigh : GoodIn wsX6_dealer wsX6_allWeigh := goodIn_r _ [50, 25, 18, 19, 6, 20, 43, 44, 45, 46, 34, 51, 52, 53, 54, 55, 56, 57, 58, 59, 60, 61, 62, 63, 64, 65, 66, 67, 68, 69, 70, 71, 72, 73, 74] (by decide +kernel) (by decide +kernel)
set_option maxRecDepth 20000 in
theorem gX6_dealer_X6_allWeigh : GoodIn wsX6_dealer (wsV RX6 195 RX6 yX6_allWeigh wsX6_allWeigh) := goodIn_app (goodIn_of _ (by decide +kernel)) ggX6_dealer_X6_allWeigh
theorem dX6_dealer_0 : decode cX6_dealer 0 = .ok (.iload_n 1, 1) := by decide +kernel
theorem dX6_dealer_1 : decode cX6_dealer 1 = .ok (.iconst (-1), 1) := by decide +kernel
theorem dX6_dealer_2 : decode cX6_dealer 2 = .ok (.if_icmp .ge 5, 3) := by decide +kernel
theorem dX6_dealer_5 : decode cX6_dealer 5 = .ok (.iconst (-1), 1) := by decide +kernel
theorem dX6_dealer_6 : decode cX6_dealer 6 = .ok (.ireturn, 1) := by decide +kernel
theorem dX6_dealer_7 : decode cX6_dealer 7 = .ok (.aload_n 0, 1) := by decide +kernel
theorem dX6_dealer_8 : decode cX6_dealer 8 = .ok (.invokevirtual 168, 3) := by decide +kernel
theorem dX6_dealer_11 : decode cX6_dealer 11 = .ok (.iconst 0, 1) := by decide +kernel
theorem dX6_dealer_12 : decode cX6_dealer 12 = .ok (.istore_n 2, 1) := by decide +kernel
theorem dX6_dealer_13 : decode cX6_dealer 13 = .ok (.iconst 0, 1) := by decide +kernel
theorem dX6_dealer_14 : decode cX6_dealer 14 = .ok (.istore_n 3, 1) := by decide +kernel
theorem dX6_dealer_15 : decode cX6_dealer 15 = .ok (.bipush (-4), 2) := by decide +kernel
theorem dX6_dealer_17 : decode cX6_dealer 17 = .ok (.istore 4, 2) := by decide +kernel
theorem dX6_dealer_19 : decode cX6_dealer 19 = .ok (.iconst 1, 1) := by decide +kernel
theorem dX6_dealer_20 : decode cX6_dealer 20 = .ok (.istore 5, 2) := by decide +kernel
theorem dX6_dealer_22 : decode cX6_dealer 22 = .ok (.iload 5, 2) := by decide +kernel
theorem dX6_dealer_24 : decode cX6_dealer 24 = .ok (.ifCond .eq 161, 3) := by decide +kernel
theorem dX6_dealer_27 : decode cX6_dealer 27 = .ok (.iconst (-1), 1) := by decide +kernel
theorem dX6_dealer_28 : decode cX6_dealer 28 = .ok (.istore 6, 2) := by decide +kernel
theorem dX6_dealer_30 : decode cX6_dealer 30 = .ok (.iconst 0, 1) := by decide +kernel
theorem dX6_dealer_31 : decode cX6_dealer 31 = .ok (.istore 7, 2) := by decide +kernel
theorem dX6_dealer_33 : decode cX6_dealer 33 = .ok (.iconst 0, 1) := by decide +kernel
theorem dX6_dealer_34 : decode cX6_dealer 34 = .ok (.istore 8, 2) := by decide +kernel
theorem dX6_dealer_36 : decode cX6_dealer 36 = .ok (.iload 8, 2) := by decide +kernel
theorem dX6_dealer_38 : decode cX6_dealer 38 = .ok (.aload_n 0, 1) := by decide +kernel
theorem dX6_dealer_39 : decode cX6_dealer 39 = .ok (.getfield 73, 3) := by decide +kernel
theorem dX6_dealer_42 : decode cX6_dealer 42 = .ok (.if_icmp .ge 75, 3) := by decide +kernel
theorem dX6_dealer_45 : decode cX6_dealer 45 = .ok (.aload_n 0, 1) := by decide +kernel
theorem dX6_dealer_46 : decode cX6_dealer 46 = .ok (.iload 8, 2) := by decide +kernel
theorem dX6_dealer_48 : decode cX6_dealer 48 = .ok (.invokevirtual 159, 3) := by decide +kernel
theorem dX6_dealer_51 : decode cX6_dealer 51 = .ok (.ifCond .eq 25, 3) := by decide +kernel
theorem dX6_dealer_54 : decode cX6_dealer 54 = .ok (.aload_n 0, 1) := by decide +kernel
theorem dX6_dealer_55 : decode cX6_dealer 55 = .ok (.aload_n 0, 1) := by decide +kernel
theorem dX6_dealer_56 : decode cX6_dealer 56 = .ok (.iload 8, 2) := by decide +kernel
theorem dX6_dealer_58 : decode cX6_dealer 58 = .ok (.invokevirtual 162, 3) := by decide +kernel
theorem dX6_dealer_61 : decode cX6_dealer 61 = .ok (.aload_n 0, 1) := by decide +kernel
theorem dX6_dealer_62 : decode cX6_dealer 62 = .ok (.getfield 43, 3) := by decide +kernel
theorem dX6_dealer_65 : decode cX6_dealer 65 = .ok (.iconst 1, 1) := by decide +kernel
theorem dX6_dealer_66 : decode cX6_dealer 66 = .ok (.iaload, 1) := by decide +kernel
theorem dX6_dealer_67 : decode cX6_dealer 67 = .ok (.iconst (-1), 1) := by decide +kernel
theorem dX6_dealer_68 : decode cX6_dealer 68 = .ok (.ixor, 1) := by decide +kernel
theorem dX6_dealer_69 : decode cX6_dealer 69 = .ok (.iand, 1) := by decide +kernel
theorem dX6_dealer_70 : decode cX6_dealer 70 = .ok (.invokevirtual 195, 3) := by decide +kernel
theorem dX6_dealer_73 : decode cX6_dealer 73 = .ok (.goto 4, 3) := by decide +kernel
theorem dX6_dealer_76 : decode cX6_dealer 76 = .ok (.iconst 0, 1) := by decide +kernel
theorem dX6_dealer_77 : decode cX6_dealer 77 = .ok (.istore 9, 2) := by decide +kernel
theorem dX6_dealer_79 : decode cX6_dealer 79 = .ok (.iload 9, 2) := by decide +kernel
theorem dX6_dealer_81 : decode cX6_dealer 81 = .ok (.iload 7, 2) := by decide +kernel
theorem dX6_dealer_83 : decode cX6_dealer 83 = .ok (.if_icmp .le 8, 3) := by decide +kernel
theorem dX6_dealer_86 : decode cX6_dealer 86 = .ok (.iload 8, 2) := by decide +kernel
theorem dX6_dealer_88 : decode cX6_dealer 88 = .ok (.goto 5, 3) := by decide +kernel
theorem dX6_dealer_91 : decode cX6_dealer 91 = .ok (.iload 6, 2) := by decide +kernel
theorem dX6_dealer_93 : decode cX6_dealer 93 = .ok (.istore 6, 2) := by decide +kernel
theorem dX6_dealer_95 : decode cX6_dealer 95 = .ok (.iload 9, 2) := by decide +kernel
theorem dX6_dealer_97 : decode cX6_dealer 97 = .ok (.iload 7, 2) := by decide +kernel
theorem dX6_dealer_99 : decode cX6_dealer 99 = .ok (.if_icmp .le 8, 3) := by decide +kernel
theorem dX6_dealer_102 : decode cX6_dealer 102 = .ok (.iload 9, 2) := by decide +kernel
theorem dX6_dealer_104 : decode cX6_dealer 104 = .ok (.goto 5, 3) := by decide +kernel
theorem dX6_dealer_107 : decode cX6_dealer 107 = .ok (.iload 7, 2) := by decide +kernel
theorem dX6_dealer_109 : decode cX6_dealer 109 = .ok (.istore 7, 2) := by decide +kernel
theorem dX6_dealer_111 : decode cX6_dealer 111 = .ok (.iinc 8 1, 3) := by decide +kernel
theorem dX6_dealer_114 : decode cX6_dealer 114 = .ok (.goto (-78), 3) := by decide +kernel
theorem dX6_dealer_117 : decode cX6_dealer 117 = .ok (.iload 6, 2) := by decide +kernel
theorem dX6_dealer_119 : decode cX6_dealer 119 = .ok (.ifCond .lt 7, 3) := by decide +kernel
theorem dX6_dealer_122 : decode cX6_dealer 122 = .ok (.iconst 1, 1) := by decide +kernel
theorem dX6_dealer_123 : decode cX6_dealer 123 = .ok (.goto 4, 3) := by decide +kernel
theorem dX6_dealer_126 : decode cX6_dealer 126 = .ok (.iconst 0, 1) := by decide +kernel
theorem dX6_dealer_127 : decode cX6_dealer 127 = .ok (.istore 5, 2) := by decide +kernel
theorem dX6_dealer_129 : decode cX6_dealer 129 = .ok (.iload 5, 2) := by decide +kernel
theorem dX6_dealer_131 : decode cX6_dealer 131 = .ok (.ifCond .eq 51, 3) := by decide +kernel
theorem dX6_dealer_134 : decode cX6_dealer 134 = .ok (.iload_n 3, 1) := by decide +kernel
theorem dX6_dealer_135 : decode cX6_dealer 135 = .ok (.iload_n 1, 1) := by decide +kernel
theorem dX6_dealer_136 : decode cX6_dealer 136 = .ok (.if_icmp .ne 8, 3) := by decide +kernel
theorem dX6_dealer_139 : decode cX6_dealer 139 = .ok (.iload 6, 2) := by decide +kernel
theorem dX6_dealer_141 : decode cX6_dealer 141 = .ok (.goto 5, 3) := by decide +kernel
theorem dX6_dealer_144 : decode cX6_dealer 144 = .ok (.iload 4, 2) := by decide +kernel
theorem dX6_dealer_146 : decode cX6_dealer 146 = .ok (.istore 4, 2) := by decide +kernel
theorem dX6_dealer_148 : decode cX6_dealer 148 = .ok (.iinc 3 1, 3) := by decide +kernel
theorem dX6_dealer_151 : decode cX6_dealer 151 = .ok (.iload_n 2, 1) := by decide +kernel
theorem dX6_dealer_152 : decode cX6_dealer 152 = .ok (.iload 7, 2) := by decide +kernel
theorem dX6_dealer_154 : decode cX6_dealer 154 = .ok (.iadd, 1) := by decide +kernel
theorem dX6_dealer_155 : decode cX6_dealer 155 = .ok (.istore_n 2, 1) := by decide +kernel
theorem dX6_dealer_156 : decode cX6_dealer 156 = .ok (.aload_n 0, 1) := by decide +kernel
theorem dX6_dealer_157 : decode cX6_dealer 157 = .ok (.getfield 43, 3) := by decide +kernel
theorem dX6_dealer_160 : decode cX6_dealer 160 = .ok (.iconst 1, 1) := by decide +kernel
theorem dX6_dealer_161 : decode cX6_dealer 161 = .ok (.dup2, 1) := by decide +kernel
theorem dX6_dealer_162 : decode cX6_dealer 162 = .ok (.iaload, 1) := by decide +kernel
theorem dX6_dealer_163 : decode cX6_dealer 163 = .ok (.aload_n 0, 1) := by decide +kernel
theorem dX6_dealer_164 : decode cX6_dealer 164 = .ok (.iload 6, 2) := by decide +kernel
theorem dX6_dealer_166 : decode cX6_dealer 166 = .ok (.invokevirtual 162, 3) := by decide +kernel
theorem dX6_dealer_169 : decode cX6_dealer 169 = .ok (.ior, 1) := by decide +kernel
theorem dX6_dealer_170 : decode cX6_dealer 170 = .ok (.iastore, 1) := by decide +kernel
theorem dX6_dealer_171 : decode cX6_dealer 171 = .ok (.aload_n 0, 1) := by decide +kernel
theorem dX6_dealer_172 : decode cX6_dealer 172 = .ok (.getfield 43, 3) := by decide +kernel
theorem dX6_dealer_175 : decode cX6_dealer 175 = .ok (.bipush 10, 2) := by decide +kernel
theorem dX6_dealer_177 : decode cX6_dealer 177 = .ok (.iload 6, 2) := by decide +kernel
theorem dX6_dealer_179 : decode cX6_dealer 179 = .ok (.iadd, 1) := by decide +kernel
theorem dX6_dealer_180 : decode cX6_dealer 180 = .ok (.iconst 2, 1) := by decide +kernel
theorem dX6_dealer_181 : decode cX6_dealer 181 = .ok (.iastore, 1) := by decide +kernel
theorem dX6_dealer_182 : decode cX6_dealer 182 = .ok (.goto (-160), 3) := by decide +kernel
theorem dX6_dealer_185 : decode cX6_dealer 185 = .ok (.iload_n 1, 1) := by decide +kernel
theorem dX6_dealer_186 : decode cX6_dealer 186 = .ok (.ifCond .ge 7, 3) := by decide +kernel
theorem dX6_dealer_189 : decode cX6_dealer 189 = .ok (.iload_n 2, 1) := by decide +kernel
theorem dX6_dealer_190 : decode cX6_dealer 190 = .ok (.goto 5, 3) := by decide +kernel
theorem dX6_dealer_193 : decode cX6_dealer 193 = .ok (.iload 4, 2) := by decide +kernel
theorem dX6_dealer_195 : decode cX6_dealer 195 = .ok (.ireturn, 1) := by decide +kernel
set_option maxRecDepth 20000 in
theorem ggX6_ruin_X6_in : GoodIn wsX6_ruin wsX6_in := goodIn_r _ [7] (by decide +kernel) (by decide +kernel)
set_option maxRecDepth 20000 in
theorem gX6_ruin_X6_in : GoodIn wsX6_ruin (va_wsS RX6 76 yX6_in wsX6_in) := goodIn_app (goodIn_of _ (by decide +kernel)) ggX6_ruin_X6_in
set_option maxRecDepth 20000 in
theorem ggX6_ruin_X6_has : GoodIn wsX6_ruin wsX6_has := goodIn_r _ [10] (by decide +kernel) (by decide +kernel)
set_option maxRecDepth 20000 in
theorem gX6_ruin_X6_has : GoodIn wsX6_ruin (va_wsS RX6 155 yX6_has wsX6_has) := goodIn_app (goodIn_of _ (by decide +kernel)) ggX6_ruin_X6_has
set_option maxRecDepth 20000 in
theorem ggX6_ruin_X6_weighs : GoodIn wsX6_ruin wsX6_weighs := goodIn_r _ [14, 2, 15, 16, 17, 18, 19, 20, 21, 22, 23, 24, 25, 26, 27, 28, 29, 30, 31, 32, 33, 34, 35, 36, 37, 38] (by decide +kernel) (by decide +kernel)
set_option maxRecDepth 20000 in
theorem gX6_ruin_X6_weighs : GoodIn wsX6_ruin (wsV RX6 149 RX6 yX6_weighs wsX6_weighs) := goodIn_app (goodIn_of _ (by decide +kernel)) ggX6_ruin_X6_weighs
theorem dX6_ruin_0 : decode cX6_ruin 0 = .ok (.iload_n 1, 1) := by decide +kernel
theorem dX6_ruin_1 : decode cX6_ruin 1 = .ok (.iconst 0, 1) := by decide +kernel
theorem dX6_ruin_2 : decode cX6_ruin 2 = .ok (.iconst 5, 1) := by decide +kernel
theorem dX6_ruin_3 : decode cX6_ruin 3 = .ok (.invokestatic 76, 3) := by decide +kernel
theorem dX6_ruin_6 : decode cX6_ruin 6 = .ok (.ifCond .ne 5, 3) := by decide +kernel
theorem dX6_ruin_9 : decode cX6_ruin 9 = .ok (.iconst (-1), 1) := by decide +kernel
theorem dX6_ruin_10 : decode cX6_ruin 10 = .ok (.ireturn, 1) := by decide +kernel
theorem dX6_ruin_11 : decode cX6_ruin 11 = .ok (.iconst 0, 1) := by decide +kernel
theorem dX6_ruin_12 : decode cX6_ruin 12 = .ok (.istore_n 2, 1) := by decide +kernel
theorem dX6_ruin_13 : decode cX6_ruin 13 = .ok (.iconst 0, 1) := by decide +kernel
theorem dX6_ruin_14 : decode cX6_ruin 14 = .ok (.istore_n 3, 1) := by decide +kernel
theorem dX6_ruin_15 : decode cX6_ruin 15 = .ok (.iload_n 3, 1) := by decide +kernel
theorem dX6_ruin_16 : decode cX6_ruin 16 = .ok (.aload_n 0, 1) := by decide +kernel
theorem dX6_ruin_17 : decode cX6_ruin 17 = .ok (.getfield 80, 3) := by decide +kernel
theorem dX6_ruin_20 : decode cX6_ruin 20 = .ok (.if_icmp .ge 46, 3) := by decide +kernel
theorem dX6_ruin_23 : decode cX6_ruin 23 = .ok (.iload_n 2, 1) := by decide +kernel
theorem dX6_ruin_24 : decode cX6_ruin 24 = .ok (.aload_n 0, 1) := by decide +kernel
theorem dX6_ruin_25 : decode cX6_ruin 25 = .ok (.getfield 13, 3) := by decide +kernel
theorem dX6_ruin_28 : decode cX6_ruin 28 = .ok (.iconst 4, 1) := by decide +kernel
theorem dX6_ruin_29 : decode cX6_ruin 29 = .ok (.iload_n 3, 1) := by decide +kernel
theorem dX6_ruin_30 : decode cX6_ruin 30 = .ok (.imul, 1) := by decide +kernel
theorem dX6_ruin_31 : decode cX6_ruin 31 = .ok (.iaload, 1) := by decide +kernel
theorem dX6_ruin_32 : decode cX6_ruin 32 = .ok (.iload_n 1, 1) := by decide +kernel
theorem dX6_ruin_33 : decode cX6_ruin 33 = .ok (.if_icmp .ne 24, 3) := by decide +kernel
theorem dX6_ruin_36 : decode cX6_ruin 36 = .ok (.aload_n 0, 1) := by decide +kernel
theorem dX6_ruin_37 : decode cX6_ruin 37 = .ok (.getfield 16, 3) := by decide +kernel
theorem dX6_ruin_40 : decode cX6_ruin 40 = .ok (.iconst 1, 1) := by decide +kernel
theorem dX6_ruin_41 : decode cX6_ruin 41 = .ok (.iaload, 1) := by decide +kernel
theorem dX6_ruin_42 : decode cX6_ruin 42 = .ok (.iload_n 3, 1) := by decide +kernel
theorem dX6_ruin_43 : decode cX6_ruin 43 = .ok (.invokestatic 155, 3) := by decide +kernel
theorem dX6_ruin_46 : decode cX6_ruin 46 = .ok (.ifCond .eq 11, 3) := by decide +kernel
theorem dX6_ruin_49 : decode cX6_ruin 49 = .ok (.aload_n 0, 1) := by decide +kernel
theorem dX6_ruin_50 : decode cX6_ruin 50 = .ok (.iload_n 3, 1) := by decide +kernel
theorem dX6_ruin_51 : decode cX6_ruin 51 = .ok (.invokevirtual 149, 3) := by decide +kernel
theorem dX6_ruin_54 : decode cX6_ruin 54 = .ok (.goto 4, 3) := by decide +kernel
theorem dX6_ruin_57 : decode cX6_ruin 57 = .ok (.iconst 0, 1) := by decide +kernel
theorem dX6_ruin_58 : decode cX6_ruin 58 = .ok (.iadd, 1) := by decide +kernel
theorem dX6_ruin_59 : decode cX6_ruin 59 = .ok (.istore_n 2, 1) := by decide +kernel
theorem dX6_ruin_60 : decode cX6_ruin 60 = .ok (.iinc 3 1, 3) := by decide +kernel
theorem dX6_ruin_63 : decode cX6_ruin 63 = .ok (.goto (-48), 3) := by decide +kernel
theorem dX6_ruin_66 : decode cX6_ruin 66 = .ok (.iload_n 2, 1) := by decide +kernel
theorem dX6_ruin_67 : decode cX6_ruin 67 = .ok (.ireturn, 1) := by decide +kernel
set_option maxRecDepth 20000 in
theorem ggX6_seen_X6_isPiece : GoodIn wsX6_seen wsX6_isPiece := goodIn_r _ [7, 8, 9, 10, 6, 11, 17, 18, 19, 20, 21, 22, 23, 24, 25, 26, 27, 28, 29, 30, 31, 32, 33, 34, 35, 36, 37, 38, 39, 40] (by decide +kernel) (by decide +kernel)
set_option maxRecDepth 20000 in
theorem gX6_seen_X6_isPiece : GoodIn wsX6_seen (wsV RX6 165 RX6 yX6_isPiece wsX6_isPiece) := goodIn_app (goodIn_of _ (by decide +kernel)) ggX6_seen_X6_isPiece
set_option maxRecDepth 20000 in
theorem ggX6_seen_X6_isDeed : GoodIn wsX6_seen wsX6_isDeed := goodIn_r _ [15, 16, 9, 10, 6, 11, 17, 18, 19, 20, 21, 22, 23, 24, 25, 26, 27, 28, 29, 30, 31, 32, 33, 34, 35, 36, 37, 38, 39, 40] (by decide +kernel) (by decide +kernel)
set_option maxRecDepth 20000 in
theorem gX6_seen_X6_isDeed : GoodIn wsX6_seen (wsV RX6 171 RX6 yX6_isDeed wsX6_isDeed) := goodIn_app (goodIn_of _ (by decide +kernel)) ggX6_seen_X6_isDeed
set_option maxRecDepth 20000 in
theorem ggX6_seen_X6_in : GoodIn wsX6_seen wsX6_in := goodIn_r _ [11] (by decide +kernel) (by decide +kernel)
set_option maxRecDepth 20000 in
theorem gX6_seen_X6_in : GoodIn wsX6_seen (va_wsS RX6 76 yX6_in wsX6_in) := goodIn_app (goodIn_of _ (by decide +kernel)) ggX6_seen_X6_in
theorem dX6_seen_0 : decode cX6_seen 0 = .ok (.aload_n 0, 1) := by decide +kernel
theorem dX6_seen_1 : decode cX6_seen 1 = .ok (.iload_n 1, 1) := by decide +kernel
theorem dX6_seen_2 : decode cX6_seen 2 = .ok (.invokevirtual 165, 3) := by decide +kernel
theorem dX6_seen_5 : decode cX6_seen 5 = .ok (.ifCond .eq 20, 3) := by decide +kernel
theorem dX6_seen_8 : decode cX6_seen 8 = .ok (.aload_n 0, 1) := by decide +kernel
theorem dX6_seen_9 : decode cX6_seen 9 = .ok (.iload_n 2, 1) := by decide +kernel
theorem dX6_seen_10 : decode cX6_seen 10 = .ok (.invokevirtual 171, 3) := by decide +kernel
theorem dX6_seen_13 : decode cX6_seen 13 = .ok (.ifCond .eq 12, 3) := by decide +kernel
theorem dX6_seen_16 : decode cX6_seen 16 = .ok (.iload_n 3, 1) := by decide +kernel
theorem dX6_seen_17 : decode cX6_seen 17 = .ok (.iconst 0, 1) := by decide +kernel
theorem dX6_seen_18 : decode cX6_seen 18 = .ok (.iconst 1, 1) := by decide +kernel
theorem dX6_seen_19 : decode cX6_seen 19 = .ok (.invokestatic 76, 3) := by decide +kernel
theorem dX6_seen_22 : decode cX6_seen 22 = .ok (.ifCond .ne 5, 3) := by decide +kernel
theorem dX6_seen_25 : decode cX6_seen 25 = .ok (.iconst (-1), 1) := by decide +kernel
theorem dX6_seen_26 : decode cX6_seen 26 = .ok (.ireturn, 1) := by decide +kernel
theorem dX6_seen_27 : decode cX6_seen 27 = .ok (.aload_n 0, 1) := by decide +kernel
theorem dX6_seen_28 : decode cX6_seen 28 = .ok (.getfield 136, 3) := by decide +kernel
theorem dX6_seen_31 : decode cX6_seen 31 = .ok (.bipush 6, 2) := by decide +kernel
theorem dX6_seen_33 : decode cX6_seen 33 = .ok (.if_icmp .ne 6, 3) := by decide +kernel
theorem dX6_seen_36 : decode cX6_seen 36 = .ok (.bipush (-3), 2) := by decide +kernel
theorem dX6_seen_38 : decode cX6_seen 38 = .ok (.ireturn, 1) := by decide +kernel
theorem dX6_seen_39 : decode cX6_seen 39 = .ok (.aload_n 0, 1) := by decide +kernel
theorem dX6_seen_40 : decode cX6_seen 40 = .ok (.getfield 25, 3) := by decide +kernel
theorem dX6_seen_43 : decode cX6_seen 43 = .ok (.iconst 3, 1) := by decide +kernel
theorem dX6_seen_44 : decode cX6_seen 44 = .ok (.aload_n 0, 1) := by decide +kernel
theorem dX6_seen_45 : decode cX6_seen 45 = .ok (.getfield 136, 3) := by decide +kernel
theorem dX6_seen_48 : decode cX6_seen 48 = .ok (.imul, 1) := by decide +kernel
theorem dX6_seen_49 : decode cX6_seen 49 = .ok (.iload_n 1, 1) := by decide +kernel
theorem dX6_seen_50 : decode cX6_seen 50 = .ok (.iastore, 1) := by decide +kernel
theorem dX6_seen_51 : decode cX6_seen 51 = .ok (.aload_n 0, 1) := by decide +kernel
theorem dX6_seen_52 : decode cX6_seen 52 = .ok (.getfield 25, 3) := by decide +kernel
theorem dX6_seen_55 : decode cX6_seen 55 = .ok (.iconst 3, 1) := by decide +kernel
theorem dX6_seen_56 : decode cX6_seen 56 = .ok (.aload_n 0, 1) := by decide +kernel
theorem dX6_seen_57 : decode cX6_seen 57 = .ok (.getfield 136, 3) := by decide +kernel
theorem dX6_seen_60 : decode cX6_seen 60 = .ok (.imul, 1) := by decide +kernel
theorem dX6_seen_61 : decode cX6_seen 61 = .ok (.iconst 1, 1) := by decide +kernel
theorem dX6_seen_62 : decode cX6_seen 62 = .ok (.iadd, 1) := by decide +kernel
theorem dX6_seen_63 : decode cX6_seen 63 = .ok (.iload_n 2, 1) := by decide +kernel
theorem dX6_seen_64 : decode cX6_seen 64 = .ok (.iastore, 1) := by decide +kernel
theorem dX6_seen_65 : decode cX6_seen 65 = .ok (.aload_n 0, 1) := by decide +kernel
theorem dX6_seen_66 : decode cX6_seen 66 = .ok (.getfield 25, 3) := by decide +kernel
theorem dX6_seen_69 : decode cX6_seen 69 = .ok (.iconst 3, 1) := by decide +kernel
theorem dX6_seen_70 : decode cX6_seen 70 = .ok (.aload_n 0, 1) := by decide +kernel
theorem dX6_seen_71 : decode cX6_seen 71 = .ok (.getfield 136, 3) := by decide +kernel
theorem dX6_seen_74 : decode cX6_seen 74 = .ok (.imul, 1) := by decide +kernel
theorem dX6_seen_75 : decode cX6_seen 75 = .ok (.iconst 2, 1) := by decide +kernel
theorem dX6_seen_76 : decode cX6_seen 76 = .ok (.iadd, 1) := by decide +kernel
theorem dX6_seen_77 : decode cX6_seen 77 = .ok (.iload_n 3, 1) := by decide +kernel
theorem dX6_seen_78 : decode cX6_seen 78 = .ok (.iastore, 1) := by decide +kernel
theorem dX6_seen_79 : decode cX6_seen 79 = .ok (.aload_n 0, 1) := by decide +kernel
theorem dX6_seen_80 : decode cX6_seen 80 = .ok (.dup, 1) := by decide +kernel
theorem dX6_seen_81 : decode cX6_seen 81 = .ok (.getfield 136, 3) := by decide +kernel
theorem dX6_seen_84 : decode cX6_seen 84 = .ok (.iconst 1, 1) := by decide +kernel
theorem dX6_seen_85 : decode cX6_seen 85 = .ok (.iadd, 1) := by decide +kernel
theorem dX6_seen_86 : decode cX6_seen 86 = .ok (.putfield 136, 3) := by decide +kernel
theorem dX6_seen_89 : decode cX6_seen 89 = .ok (.aload_n 0, 1) := by decide +kernel
theorem dX6_seen_90 : decode cX6_seen 90 = .ok (.getfield 136, 3) := by decide +kernel
theorem dX6_seen_93 : decode cX6_seen 93 = .ok (.ireturn, 1) := by decide +kernel
theorem dX6_forget_0 : decode cX6_forget 0 = .ok (.aload_n 0, 1) := by decide +kernel
theorem dX6_forget_1 : decode cX6_forget 1 = .ok (.getfield 136, 3) := by decide +kernel
theorem dX6_forget_4 : decode cX6_forget 4 = .ok (.istore_n 1, 1) := by decide +kernel
theorem dX6_forget_5 : decode cX6_forget 5 = .ok (.aload_n 0, 1) := by decide +kernel
theorem dX6_forget_6 : decode cX6_forget 6 = .ok (.iconst 0, 1) := by decide +kernel
theorem dX6_forget_7 : decode cX6_forget 7 = .ok (.putfield 136, 3) := by decide +kernel
theorem dX6_forget_10 : decode cX6_forget 10 = .ok (.iload_n 1, 1) := by decide +kernel
theorem dX6_forget_11 : decode cX6_forget 11 = .ok (.ireturn, 1) := by decide +kernel
set_option maxRecDepth 20000 in
theorem ggX6_isSo_X6_doesTell : GoodIn wsX6_isSo wsX6_doesTell := goodIn_r _ [8, 9, 10, 11, 12, 13, 7, 14, 15, 16, 17, 18, 19, 20, 21, 22, 23, 24, 25, 26, 27, 28, 29, 30, 31, 32, 33, 34, 35, 36, 37, 38, 39, 40, 41, 42, 43, 44, 45, 46, 47, 48, 49, 50, 51] (by decide +kernel) (by decide +kernel)
set_option maxRecDepth 20000 in
theorem gX6_isSo_X6_doesTell : GoodIn wsX6_isSo (wsV RX6 152 RX6 yX6_doesTell wsX6_doesTell) := goodIn_app (goodIn_of _ (by decide +kernel)) ggX6_isSo_X6_doesTell
theorem dX6_isSo_0 : decode cX6_isSo 0 = .ok (.iconst 1, 1) := by decide +kernel
theorem dX6_isSo_1 : decode cX6_isSo 1 = .ok (.istore_n 2, 1) := by decide +kernel
theorem dX6_isSo_2 : decode cX6_isSo 2 = .ok (.iconst 0, 1) := by decide +kernel
theorem dX6_isSo_3 : decode cX6_isSo 3 = .ok (.istore_n 3, 1) := by decide +kernel
theorem dX6_isSo_4 : decode cX6_isSo 4 = .ok (.iload_n 3, 1) := by decide +kernel
theorem dX6_isSo_5 : decode cX6_isSo 5 = .ok (.aload_n 0, 1) := by decide +kernel
theorem dX6_isSo_6 : decode cX6_isSo 6 = .ok (.getfield 136, 3) := by decide +kernel
theorem dX6_isSo_9 : decode cX6_isSo 9 = .ok (.if_icmp .ge 72, 3) := by decide +kernel
theorem dX6_isSo_12 : decode cX6_isSo 12 = .ok (.iload_n 2, 1) := by decide +kernel
theorem dX6_isSo_13 : decode cX6_isSo 13 = .ok (.ifCond .eq 60, 3) := by decide +kernel
theorem dX6_isSo_16 : decode cX6_isSo 16 = .ok (.aload_n 0, 1) := by decide +kernel
theorem dX6_isSo_17 : decode cX6_isSo 17 = .ok (.getfield 25, 3) := by decide +kernel
theorem dX6_isSo_20 : decode cX6_isSo 20 = .ok (.iconst 3, 1) := by decide +kernel
theorem dX6_isSo_21 : decode cX6_isSo 21 = .ok (.iload_n 3, 1) := by decide +kernel
theorem dX6_isSo_22 : decode cX6_isSo 22 = .ok (.imul, 1) := by decide +kernel
theorem dX6_isSo_23 : decode cX6_isSo 23 = .ok (.iconst 1, 1) := by decide +kernel
theorem dX6_isSo_24 : decode cX6_isSo 24 = .ok (.iadd, 1) := by decide +kernel
theorem dX6_isSo_25 : decode cX6_isSo 25 = .ok (.iaload, 1) := by decide +kernel
theorem dX6_isSo_26 : decode cX6_isSo 26 = .ok (.iload_n 1, 1) := by decide +kernel
theorem dX6_isSo_27 : decode cX6_isSo 27 = .ok (.if_icmp .ne 42, 3) := by decide +kernel
theorem dX6_isSo_30 : decode cX6_isSo 30 = .ok (.aload_n 0, 1) := by decide +kernel
theorem dX6_isSo_31 : decode cX6_isSo 31 = .ok (.aload_n 0, 1) := by decide +kernel
theorem dX6_isSo_32 : decode cX6_isSo 32 = .ok (.getfield 25, 3) := by decide +kernel
theorem dX6_isSo_35 : decode cX6_isSo 35 = .ok (.iconst 3, 1) := by decide +kernel
theorem dX6_isSo_36 : decode cX6_isSo 36 = .ok (.iload_n 3, 1) := by decide +kernel
theorem dX6_isSo_37 : decode cX6_isSo 37 = .ok (.imul, 1) := by decide +kernel
theorem dX6_isSo_38 : decode cX6_isSo 38 = .ok (.iaload, 1) := by decide +kernel
theorem dX6_isSo_39 : decode cX6_isSo 39 = .ok (.iload_n 1, 1) := by decide +kernel
theorem dX6_isSo_40 : decode cX6_isSo 40 = .ok (.aload_n 0, 1) := by decide +kernel
theorem dX6_isSo_41 : decode cX6_isSo 41 = .ok (.getfield 80, 3) := by decide +kernel
theorem dX6_isSo_44 : decode cX6_isSo 44 = .ok (.invokevirtual 152, 3) := by decide +kernel
theorem dX6_isSo_47 : decode cX6_isSo 47 = .ok (.aload_n 0, 1) := by decide +kernel
theorem dX6_isSo_48 : decode cX6_isSo 48 = .ok (.getfield 25, 3) := by decide +kernel
theorem dX6_isSo_51 : decode cX6_isSo 51 = .ok (.iconst 3, 1) := by decide +kernel
theorem dX6_isSo_52 : decode cX6_isSo 52 = .ok (.iload_n 3, 1) := by decide +kernel
theorem dX6_isSo_53 : decode cX6_isSo 53 = .ok (.imul, 1) := by decide +kernel
theorem dX6_isSo_54 : decode cX6_isSo 54 = .ok (.iconst 2, 1) := by decide +kernel
theorem dX6_isSo_55 : decode cX6_isSo 55 = .ok (.iadd, 1) := by decide +kernel
theorem dX6_isSo_56 : decode cX6_isSo 56 = .ok (.iaload, 1) := by decide +kernel
theorem dX6_isSo_57 : decode cX6_isSo 57 = .ok (.iconst 1, 1) := by decide +kernel
theorem dX6_isSo_58 : decode cX6_isSo 58 = .ok (.if_icmp .ne 7, 3) := by decide +kernel
theorem dX6_isSo_61 : decode cX6_isSo 61 = .ok (.iconst 1, 1) := by decide +kernel
theorem dX6_isSo_62 : decode cX6_isSo 62 = .ok (.goto 4, 3) := by decide +kernel
theorem dX6_isSo_65 : decode cX6_isSo 65 = .ok (.iconst 0, 1) := by decide +kernel
theorem dX6_isSo_66 : decode cX6_isSo 66 = .ok (.if_icmp .ne 7, 3) := by decide +kernel
theorem dX6_isSo_69 : decode cX6_isSo 69 = .ok (.iconst 1, 1) := by decide +kernel
theorem dX6_isSo_70 : decode cX6_isSo 70 = .ok (.goto 4, 3) := by decide +kernel
theorem dX6_isSo_73 : decode cX6_isSo 73 = .ok (.iconst 0, 1) := by decide +kernel
theorem dX6_isSo_74 : decode cX6_isSo 74 = .ok (.istore_n 2, 1) := by decide +kernel
theorem dX6_isSo_75 : decode cX6_isSo 75 = .ok (.iinc 3 1, 3) := by decide +kernel
theorem dX6_isSo_78 : decode cX6_isSo 78 = .ok (.goto (-74), 3) := by decide +kernel
theorem dX6_isSo_81 : decode cX6_isSo 81 = .ok (.iload_n 2, 1) := by decide +kernel
theorem dX6_isSo_82 : decode cX6_isSo 82 = .ok (.ireturn, 1) := by decide +kernel
set_option maxRecDepth 20000 in
theorem ggX6_may_X6_isDeed : GoodIn wsX6_may wsX6_isDeed := goodIn_r _ [6, 7, 8, 9, 5, 10, 47, 48, 49, 50, 51, 52, 53, 54, 55, 56, 57, 58, 59, 60, 61, 62, 63, 64, 65, 66, 67, 68, 69, 70] (by decide +kernel) (by decide +kernel)
set_option maxRecDepth 20000 in
theorem gX6_may_X6_isDeed : GoodIn wsX6_may (wsV RX6 171 RX6 yX6_isDeed wsX6_isDeed) := goodIn_app (goodIn_of _ (by decide +kernel)) ggX6_may_X6_isDeed
set_option maxRecDepth 20000 in
theorem ggX6_may_X6_in : GoodIn wsX6_may wsX6_in := goodIn_r _ [10] (by decide +kernel) (by decide +kernel)
set_option maxRecDepth 20000 in
theorem gX6_may_X6_in : GoodIn wsX6_may (va_wsS RX6 76 yX6_in wsX6_in) := goodIn_app (goodIn_of _ (by decide +kernel)) ggX6_may_X6_in
set_option maxRecDepth 20000 in
theorem ggX6_may_X6_asItIs : GoodIn wsX6_may wsX6_asItIs := goodIn_r _ [14, 15, 16, 17, 18, 5, 19, 47, 48, 49, 50, 51, 52, 53, 54, 55, 56, 57, 58, 59, 60, 61, 62, 63, 64, 65, 66, 67, 68, 69, 70] (by decide +kernel) (by decide +kernel)
set_option maxRecDepth 20000 in
theorem gX6_may_X6_asItIs : GoodIn wsX6_may (wsV RX6 168 RX6 yX6_asItIs wsX6_asItIs) := goodIn_app (goodIn_of _ (by decide +kernel)) ggX6_may_X6_asItIs
set_option maxRecDepth 20000 in
theorem ggX6_may_X6_isSo : GoodIn wsX6_may wsX6_isSo := goodIn_r _ [23, 24, 25, 7, 26, 27, 28, 5, 29, 15, 30, 31, 32, 33, 34, 1, 35, 36, 37, 38, 39, 40, 41, 42, 43, 44, 45, 46, 47, 48, 49, 50, 51, 52, 53, 54, 55, 56, 57, 58, 59, 60, 61, 62, 63, 64, 65, 66, 67, 68, 69, 70] (by decide +kernel) (by decide +kernel)
set_option maxRecDepth 20000 in
theorem gX6_may_X6_isSo : GoodIn wsX6_may (wsV RX6 198 RX6 yX6_isSo wsX6_isSo) := goodIn_app (goodIn_of _ (by decide +kernel)) ggX6_may_X6_isSo
theorem dX6_may_0 : decode cX6_may 0 = .ok (.aload_n 0, 1) := by decide +kernel
theorem dX6_may_1 : decode cX6_may 1 = .ok (.iload_n 1, 1) := by decide +kernel
theorem dX6_may_2 : decode cX6_may 2 = .ok (.invokevirtual 171, 3) := by decide +kernel
theorem dX6_may_5 : decode cX6_may 5 = .ok (.ifCond .eq 12, 3) := by decide +kernel
theorem dX6_may_8 : decode cX6_may 8 = .ok (.iload_n 2, 1) := by decide +kernel
theorem dX6_may_9 : decode cX6_may 9 = .ok (.iconst 0, 1) := by decide +kernel
theorem dX6_may_10 : decode cX6_may 10 = .ok (.iconst 1, 1) := by decide +kernel
theorem dX6_may_11 : decode cX6_may 11 = .ok (.invokestatic 76, 3) := by decide +kernel
theorem dX6_may_14 : decode cX6_may 14 = .ok (.ifCond .ne 5, 3) := by decide +kernel
theorem dX6_may_17 : decode cX6_may 17 = .ok (.iconst (-1), 1) := by decide +kernel
theorem dX6_may_18 : decode cX6_may 18 = .ok (.ireturn, 1) := by decide +kernel
theorem dX6_may_19 : decode cX6_may 19 = .ok (.aload_n 0, 1) := by decide +kernel
theorem dX6_may_20 : decode cX6_may 20 = .ok (.invokevirtual 168, 3) := by decide +kernel
theorem dX6_may_23 : decode cX6_may 23 = .ok (.iconst 4, 1) := by decide +kernel
theorem dX6_may_24 : decode cX6_may 24 = .ok (.iload_n 1, 1) := by decide +kernel
theorem dX6_may_25 : decode cX6_may 25 = .ok (.imul, 1) := by decide +kernel
theorem dX6_may_26 : decode cX6_may 26 = .ok (.iconst 1, 1) := by decide +kernel
theorem dX6_may_27 : decode cX6_may 27 = .ok (.iadd, 1) := by decide +kernel
theorem dX6_may_28 : decode cX6_may 28 = .ok (.iload_n 2, 1) := by decide +kernel
theorem dX6_may_29 : decode cX6_may 29 = .ok (.iadd, 1) := by decide +kernel
theorem dX6_may_30 : decode cX6_may 30 = .ok (.istore_n 3, 1) := by decide +kernel
theorem dX6_may_31 : decode cX6_may 31 = .ok (.aload_n 0, 1) := by decide +kernel
theorem dX6_may_32 : decode cX6_may 32 = .ok (.getfield 13, 3) := by decide +kernel
theorem dX6_may_35 : decode cX6_may 35 = .ok (.iload_n 3, 1) := by decide +kernel
theorem dX6_may_36 : decode cX6_may 36 = .ok (.iaload, 1) := by decide +kernel
theorem dX6_may_37 : decode cX6_may 37 = .ok (.istore 4, 2) := by decide +kernel
theorem dX6_may_39 : decode cX6_may 39 = .ok (.iconst 0, 1) := by decide +kernel
theorem dX6_may_40 : decode cX6_may 40 = .ok (.istore 5, 2) := by decide +kernel
theorem dX6_may_42 : decode cX6_may 42 = .ok (.iconst 0, 1) := by decide +kernel
theorem dX6_may_43 : decode cX6_may 43 = .ok (.istore 6, 2) := by decide +kernel
theorem dX6_may_45 : decode cX6_may 45 = .ok (.iload 6, 2) := by decide +kernel
theorem dX6_may_47 : decode cX6_may 47 = .ok (.iload_n 2, 1) := by decide +kernel
theorem dX6_may_48 : decode cX6_may 48 = .ok (.ifCond .ne 7, 3) := by decide +kernel
theorem dX6_may_51 : decode cX6_may 51 = .ok (.iconst 4, 1) := by decide +kernel
theorem dX6_may_52 : decode cX6_may 52 = .ok (.goto 5, 3) := by decide +kernel
theorem dX6_may_55 : decode cX6_may 55 = .ok (.bipush 24, 2) := by decide +kernel
theorem dX6_may_57 : decode cX6_may 57 = .ok (.if_icmp .ge 38, 3) := by decide +kernel
theorem dX6_may_60 : decode cX6_may 60 = .ok (.aload_n 0, 1) := by decide +kernel
theorem dX6_may_61 : decode cX6_may 61 = .ok (.getfield 13, 3) := by decide +kernel
theorem dX6_may_64 : decode cX6_may 64 = .ok (.iload_n 3, 1) := by decide +kernel
theorem dX6_may_65 : decode cX6_may 65 = .ok (.iload 6, 2) := by decide +kernel
theorem dX6_may_67 : decode cX6_may 67 = .ok (.iastore, 1) := by decide +kernel
theorem dX6_may_68 : decode cX6_may 68 = .ok (.iload 5, 2) := by decide +kernel
theorem dX6_may_70 : decode cX6_may 70 = .ok (.aload_n 0, 1) := by decide +kernel
theorem dX6_may_71 : decode cX6_may 71 = .ok (.iload_n 1, 1) := by decide +kernel
theorem dX6_may_72 : decode cX6_may 72 = .ok (.invokevirtual 198, 3) := by decide +kernel
theorem dX6_may_75 : decode cX6_may 75 = .ok (.ifCond .eq 10, 3) := by decide +kernel
theorem dX6_may_78 : decode cX6_may 78 = .ok (.iconst 1, 1) := by decide +kernel
theorem dX6_may_79 : decode cX6_may 79 = .ok (.iload 6, 2) := by decide +kernel
theorem dX6_may_81 : decode cX6_may 81 = .ok (.ishl, 1) := by decide +kernel
theorem dX6_may_82 : decode cX6_may 82 = .ok (.goto 4, 3) := by decide +kernel
theorem dX6_may_85 : decode cX6_may 85 = .ok (.iconst 0, 1) := by decide +kernel
theorem dX6_may_86 : decode cX6_may 86 = .ok (.ior, 1) := by decide +kernel
theorem dX6_may_87 : decode cX6_may 87 = .ok (.istore 5, 2) := by decide +kernel
theorem dX6_may_89 : decode cX6_may 89 = .ok (.iinc 6 1, 3) := by decide +kernel
theorem dX6_may_92 : decode cX6_may 92 = .ok (.goto (-47), 3) := by decide +kernel
theorem dX6_may_95 : decode cX6_may 95 = .ok (.aload_n 0, 1) := by decide +kernel
theorem dX6_may_96 : decode cX6_may 96 = .ok (.getfield 13, 3) := by decide +kernel
theorem dX6_may_99 : decode cX6_may 99 = .ok (.iload_n 3, 1) := by decide +kernel
theorem dX6_may_100 : decode cX6_may 100 = .ok (.iload 4, 2) := by decide +kernel
theorem dX6_may_102 : decode cX6_may 102 = .ok (.iastore, 1) := by decide +kernel
theorem dX6_may_103 : decode cX6_may 103 = .ok (.iload 5, 2) := by decide +kernel
theorem dX6_may_105 : decode cX6_may 105 = .ok (.ireturn, 1) := by decide +kernel
set_option maxRecDepth 20000 in
theorem ggX6_likely_X6_isDeed : GoodIn wsX6_likely wsX6_isDeed := goodIn_r _ [6, 7, 8, 9, 5, 10, 57, 58, 59, 60, 61, 62, 63, 64, 65, 66, 67, 68, 69, 70, 71, 72, 73, 74, 75, 76, 77, 78, 79, 80] (by decide +kernel) (by decide +kernel)
set_option maxRecDepth 20000 in
theorem gX6_likely_X6_isDeed : GoodIn wsX6_likely (wsV RX6 171 RX6 yX6_isDeed wsX6_isDeed) := goodIn_app (goodIn_of _ (by decide +kernel)) ggX6_likely_X6_isDeed
set_option maxRecDepth 20000 in
theorem ggX6_likely_X6_in : GoodIn wsX6_likely wsX6_in := goodIn_r _ [10] (by decide +kernel) (by decide +kernel)
set_option maxRecDepth 20000 in
theorem gX6_likely_X6_in : GoodIn wsX6_likely (va_wsS RX6 76 yX6_in wsX6_in) := goodIn_app (goodIn_of _ (by decide +kernel)) ggX6_likely_X6_in
set_option maxRecDepth 20000 in
theorem ggX6_likely_X6_asItIs : GoodIn wsX6_likely wsX6_asItIs := goodIn_r _ [14, 15, 1, 16, 17, 5, 18, 57, 58, 59, 60, 61, 62, 63, 64, 65, 66, 67, 68, 69, 70, 71, 72, 73, 74, 75, 76, 77, 78, 79, 80] (by decide +kernel) (by decide +kernel)
set_option maxRecDepth 20000 in
theorem gX6_likely_X6_asItIs : GoodIn wsX6_likely (wsV RX6 168 RX6 yX6_asItIs wsX6_asItIs) := goodIn_app (goodIn_of _ (by decide +kernel)) ggX6_likely_X6_asItIs
set_option maxRecDepth 20000 in
theorem ggX6_likely_X6_has : GoodIn wsX6_likely wsX6_has := goodIn_r _ [21] (by decide +kernel) (by decide +kernel)
set_option maxRecDepth 20000 in
theorem gX6_likely_X6_has : GoodIn wsX6_likely (va_wsS RX6 155 yX6_has wsX6_has) := goodIn_app (goodIn_of _ (by decide +kernel)) ggX6_likely_X6_has
set_option maxRecDepth 20000 in
theorem ggX6_likely_X6_tellers : GoodIn wsX6_likely wsX6_tellers := goodIn_r _ [25, 26, 7, 27, 28, 29, 5, 30, 15, 31, 32, 19, 20, 21, 33, 34, 35, 36, 37, 38, 39, 40, 41, 42, 43, 44, 45, 46, 47, 48, 49, 50, 51, 52, 53, 57, 58, 59, 60, 61, 62, 63, 64, 65, 66, 67, 68, 69, 70, 71, 72, 73, 74, 75, 76, 77, 78, 79, 80] (by decide +kernel) (by decide +kernel)
set_option maxRecDepth 20000 in
theorem gX6_likely_X6_tellers : GoodIn wsX6_likely (wsV RX6 174 RX6 yX6_tellers wsX6_tellers) := goodIn_app (goodIn_of _ (by decide +kernel)) ggX6_likely_X6_tellers
set_option maxRecDepth 20000 in
theorem ggX6_likely_X6_bits : GoodIn wsX6_likely wsX6_bits := goodIn_r _ [56] (by decide +kernel) (by decide +kernel)
set_option maxRecDepth 20000 in
theorem gX6_likely_X6_bits : GoodIn wsX6_likely (va_wsS RX6 180 yX6_bits wsX6_bits) := goodIn_app (goodIn_of _ (by decide +kernel)) ggX6_likely_X6_bits
theorem dX6_likely_0 : decode cX6_likely 0 = .ok (.aload_n 0, 1) := by decide +kernel
theorem dX6_likely_1 : decode cX6_likely 1 = .ok (.iload_n 1, 1) := by decide +kernel
theorem dX6_likely_2 : decode cX6_likely 2 = .ok (.invokevirtual 171, 3) := by decide +kernel
theorem dX6_likely_5 : decode cX6_likely 5 = .ok (.ifCond .eq 22, 3) := by decide +kernel
theorem dX6_likely_8 : decode cX6_likely 8 = .ok (.iload_n 2, 1) := by decide +kernel
theorem dX6_likely_9 : decode cX6_likely 9 = .ok (.iconst 0, 1) := by decide +kernel
theorem dX6_likely_10 : decode cX6_likely 10 = .ok (.bipush 10, 2) := by decide +kernel
theorem dX6_likely_12 : decode cX6_likely 12 = .ok (.invokestatic 76, 3) := by decide +kernel
theorem dX6_likely_15 : decode cX6_likely 15 = .ok (.ifCond .eq 12, 3) := by decide +kernel
theorem dX6_likely_18 : decode cX6_likely 18 = .ok (.iload_n 3, 1) := by decide +kernel
theorem dX6_likely_19 : decode cX6_likely 19 = .ok (.iconst 0, 1) := by decide +kernel
theorem dX6_likely_20 : decode cX6_likely 20 = .ok (.iconst 1, 1) := by decide +kernel
theorem dX6_likely_21 : decode cX6_likely 21 = .ok (.invokestatic 76, 3) := by decide +kernel
theorem dX6_likely_24 : decode cX6_likely 24 = .ok (.ifCond .ne 5, 3) := by decide +kernel
theorem dX6_likely_27 : decode cX6_likely 27 = .ok (.iconst (-1), 1) := by decide +kernel
theorem dX6_likely_28 : decode cX6_likely 28 = .ok (.ireturn, 1) := by decide +kernel
theorem dX6_likely_29 : decode cX6_likely 29 = .ok (.aload_n 0, 1) := by decide +kernel
theorem dX6_likely_30 : decode cX6_likely 30 = .ok (.invokevirtual 168, 3) := by decide +kernel
theorem dX6_likely_33 : decode cX6_likely 33 = .ok (.iconst 1, 1) := by decide +kernel
theorem dX6_likely_34 : decode cX6_likely 34 = .ok (.istore 4, 2) := by decide +kernel
theorem dX6_likely_36 : decode cX6_likely 36 = .ok (.iconst 1, 1) := by decide +kernel
theorem dX6_likely_37 : decode cX6_likely 37 = .ok (.istore 5, 2) := by decide +kernel
theorem dX6_likely_39 : decode cX6_likely 39 = .ok (.aload_n 0, 1) := by decide +kernel
theorem dX6_likely_40 : decode cX6_likely 40 = .ok (.getfield 16, 3) := by decide +kernel
theorem dX6_likely_43 : decode cX6_likely 43 = .ok (.iconst 1, 1) := by decide +kernel
theorem dX6_likely_44 : decode cX6_likely 44 = .ok (.iaload, 1) := by decide +kernel
theorem dX6_likely_45 : decode cX6_likely 45 = .ok (.iload_n 1, 1) := by decide +kernel
theorem dX6_likely_46 : decode cX6_likely 46 = .ok (.invokestatic 155, 3) := by decide +kernel
theorem dX6_likely_49 : decode cX6_likely 49 = .ok (.ifCond .eq 7, 3) := by decide +kernel
theorem dX6_likely_52 : decode cX6_likely 52 = .ok (.iconst 0, 1) := by decide +kernel
theorem dX6_likely_53 : decode cX6_likely 53 = .ok (.goto 8, 3) := by decide +kernel
theorem dX6_likely_56 : decode cX6_likely 56 = .ok (.aload_n 0, 1) := by decide +kernel
theorem dX6_likely_57 : decode cX6_likely 57 = .ok (.iload_n 1, 1) := by decide +kernel
theorem dX6_likely_58 : decode cX6_likely 58 = .ok (.invokevirtual 174, 3) := by decide +kernel
theorem dX6_likely_61 : decode cX6_likely 61 = .ok (.istore 6, 2) := by decide +kernel
theorem dX6_likely_63 : decode cX6_likely 63 = .ok (.iconst 0, 1) := by decide +kernel
theorem dX6_likely_64 : decode cX6_likely 64 = .ok (.istore 7, 2) := by decide +kernel
theorem dX6_likely_66 : decode cX6_likely 66 = .ok (.iload 7, 2) := by decide +kernel
theorem dX6_likely_68 : decode cX6_likely 68 = .ok (.iload 6, 2) := by decide +kernel
theorem dX6_likely_70 : decode cX6_likely 70 = .ok (.invokestatic 180, 3) := by decide +kernel
theorem dX6_likely_73 : decode cX6_likely 73 = .ok (.if_icmp .ge 25, 3) := by decide +kernel
theorem dX6_likely_76 : decode cX6_likely 76 = .ok (.iload 4, 2) := by decide +kernel
theorem dX6_likely_78 : decode cX6_likely 78 = .ok (.bipush 10, 2) := by decide +kernel
theorem dX6_likely_80 : decode cX6_likely 80 = .ok (.imul, 1) := by decide +kernel
theorem dX6_likely_81 : decode cX6_likely 81 = .ok (.istore 4, 2) := by decide +kernel
theorem dX6_likely_83 : decode cX6_likely 83 = .ok (.iload 5, 2) := by decide +kernel
theorem dX6_likely_85 : decode cX6_likely 85 = .ok (.bipush 10, 2) := by decide +kernel
theorem dX6_likely_87 : decode cX6_likely 87 = .ok (.iload_n 2, 1) := by decide +kernel
theorem dX6_likely_88 : decode cX6_likely 88 = .ok (.isub, 1) := by decide +kernel
theorem dX6_likely_89 : decode cX6_likely 89 = .ok (.imul, 1) := by decide +kernel
theorem dX6_likely_90 : decode cX6_likely 90 = .ok (.istore 5, 2) := by decide +kernel
theorem dX6_likely_92 : decode cX6_likely 92 = .ok (.iinc 7 1, 3) := by decide +kernel
theorem dX6_likely_95 : decode cX6_likely 95 = .ok (.goto (-29), 3) := by decide +kernel
theorem dX6_likely_98 : decode cX6_likely 98 = .ok (.aload_n 0, 1) := by decide +kernel
theorem dX6_likely_99 : decode cX6_likely 99 = .ok (.getfield 16, 3) := by decide +kernel
theorem dX6_likely_102 : decode cX6_likely 102 = .ok (.iconst 1, 1) := by decide +kernel
theorem dX6_likely_103 : decode cX6_likely 103 = .ok (.iaload, 1) := by decide +kernel
theorem dX6_likely_104 : decode cX6_likely 104 = .ok (.iload_n 1, 1) := by decide +kernel
theorem dX6_likely_105 : decode cX6_likely 105 = .ok (.invokestatic 155, 3) := by decide +kernel
theorem dX6_likely_108 : decode cX6_likely 108 = .ok (.ifCond .eq 7, 3) := by decide +kernel
theorem dX6_likely_111 : decode cX6_likely 111 = .ok (.iconst 1, 1) := by decide +kernel
theorem dX6_likely_112 : decode cX6_likely 112 = .ok (.goto 8, 3) := by decide +kernel
theorem dX6_likely_115 : decode cX6_likely 115 = .ok (.iload 4, 2) := by decide +kernel
theorem dX6_likely_117 : decode cX6_likely 117 = .ok (.iload 5, 2) := by decide +kernel
theorem dX6_likely_119 : decode cX6_likely 119 = .ok (.isub, 1) := by decide +kernel
theorem dX6_likely_120 : decode cX6_likely 120 = .ok (.istore 7, 2) := by decide +kernel
theorem dX6_likely_122 : decode cX6_likely 122 = .ok (.iload 7, 2) := by decide +kernel
theorem dX6_likely_124 : decode cX6_likely 124 = .ok (.istore 8, 2) := by decide +kernel
theorem dX6_likely_126 : decode cX6_likely 126 = .ok (.iload 4, 2) := by decide +kernel
theorem dX6_likely_128 : decode cX6_likely 128 = .ok (.istore 9, 2) := by decide +kernel
theorem dX6_likely_130 : decode cX6_likely 130 = .ok (.iload 9, 2) := by decide +kernel
theorem dX6_likely_132 : decode cX6_likely 132 = .ok (.ifCond .le 21, 3) := by decide +kernel
theorem dX6_likely_135 : decode cX6_likely 135 = .ok (.iload 8, 2) := by decide +kernel
theorem dX6_likely_137 : decode cX6_likely 137 = .ok (.iload 9, 2) := by decide +kernel
theorem dX6_likely_139 : decode cX6_likely 139 = .ok (.irem, 1) := by decide +kernel
theorem dX6_likely_140 : decode cX6_likely 140 = .ok (.istore 10, 2) := by decide +kernel
theorem dX6_likely_142 : decode cX6_likely 142 = .ok (.iload 9, 2) := by decide +kernel
theorem dX6_likely_144 : decode cX6_likely 144 = .ok (.istore 8, 2) := by decide +kernel
theorem dX6_likely_146 : decode cX6_likely 146 = .ok (.iload 10, 2) := by decide +kernel
theorem dX6_likely_148 : decode cX6_likely 148 = .ok (.istore 9, 2) := by decide +kernel
theorem dX6_likely_150 : decode cX6_likely 150 = .ok (.goto (-20), 3) := by decide +kernel
theorem dX6_likely_153 : decode cX6_likely 153 = .ok (.iload_n 3, 1) := by decide +kernel
theorem dX6_likely_154 : decode cX6_likely 154 = .ok (.ifCond .ne 8, 3) := by decide +kernel
theorem dX6_likely_157 : decode cX6_likely 157 = .ok (.iload 7, 2) := by decide +kernel
theorem dX6_likely_159 : decode cX6_likely 159 = .ok (.goto 5, 3) := by decide +kernel
theorem dX6_likely_162 : decode cX6_likely 162 = .ok (.iload 4, 2) := by decide +kernel
theorem dX6_likely_164 : decode cX6_likely 164 = .ok (.iload 8, 2) := by decide +kernel
theorem dX6_likely_166 : decode cX6_likely 166 = .ok (.idiv, 1) := by decide +kernel
theorem dX6_likely_167 : decode cX6_likely 167 = .ok (.ireturn, 1) := by decide +kernel
set_option maxRecDepth 20000 in
theorem ggX6_sale_X6_in : GoodIn wsX6_sale wsX6_in := goodIn_r _ [11] (by decide +kernel) (by decide +kernel)
set_option maxRecDepth 20000 in
theorem gX6_sale_X6_in : GoodIn wsX6_sale (va_wsS RX6 76 yX6_in wsX6_in) := goodIn_app (goodIn_of _ (by decide +kernel)) ggX6_sale_X6_in
set_option maxRecDepth 20000 in
theorem ggX6_sale_X6_asItIs : GoodIn wsX6_sale wsX6_asItIs := goodIn_r _ [15, 6, 16, 17, 18, 10, 19, 54, 55, 56, 57, 58, 59, 60, 61, 62, 63, 64, 65, 66, 67, 68, 69, 70, 71, 72, 73, 74, 75, 76, 77] (by decide +kernel) (by decide +kernel)
set_option maxRecDepth 20000 in
theorem gX6_sale_X6_asItIs : GoodIn wsX6_sale (wsV RX6 168 RX6 yX6_asItIs wsX6_asItIs) := goodIn_app (goodIn_of _ (by decide +kernel)) ggX6_sale_X6_asItIs
set_option maxRecDepth 20000 in
theorem ggX6_sale_X6_isLoose : GoodIn wsX6_sale wsX6_isLoose := goodIn_r _ [23, 6, 24, 7, 25, 26, 10, 27, 54, 55, 56, 57, 58, 59, 60, 61, 62, 63, 64, 65, 66, 67, 68, 69, 70, 71, 72, 73, 74, 75, 76, 77] (by decide +kernel) (by decide +kernel)
set_option maxRecDepth 20000 in
theorem gX6_sale_X6_isLoose : GoodIn wsX6_sale (wsV RX6 159 RX6 yX6_isLoose wsX6_isLoose) := goodIn_app (goodIn_of _ (by decide +kernel)) ggX6_sale_X6_isLoose
set_option maxRecDepth 20000 in
theorem ggX6_sale_X6_toldBy : GoodIn wsX6_sale wsX6_toldBy := goodIn_r _ [31, 32, 33, 34, 35, 10, 36, 6, 7, 37, 38, 39, 40, 41, 42, 43, 44, 45, 46, 47, 48, 49, 50, 51, 52, 53, 54, 55, 56, 57, 58, 59, 60, 61, 62, 63, 64, 65, 66, 67, 68, 69, 70, 71, 72, 73, 74, 75, 76, 77] (by decide +kernel) (by decide +kernel)
set_option maxRecDepth 20000 in
theorem gX6_sale_X6_toldBy : GoodIn wsX6_sale (wsV RX6 162 RX6 yX6_toldBy wsX6_toldBy) := goodIn_app (goodIn_of _ (by decide +kernel)) ggX6_sale_X6_toldBy
theorem dX6_sale_0 : decode cX6_sale 0 = .ok (.iload_n 1, 1) := by decide +kernel
theorem dX6_sale_1 : decode cX6_sale 1 = .ok (.iconst 0, 1) := by decide +kernel
theorem dX6_sale_2 : decode cX6_sale 2 = .ok (.sipush 9999, 3) := by decide +kernel
theorem dX6_sale_5 : decode cX6_sale 5 = .ok (.invokestatic 76, 3) := by decide +kernel
theorem dX6_sale_8 : decode cX6_sale 8 = .ok (.ifCond .eq 22, 3) := by decide +kernel
theorem dX6_sale_11 : decode cX6_sale 11 = .ok (.iload_n 2, 1) := by decide +kernel
theorem dX6_sale_12 : decode cX6_sale 12 = .ok (.iconst 1, 1) := by decide +kernel
theorem dX6_sale_13 : decode cX6_sale 13 = .ok (.bipush 40, 2) := by decide +kernel
theorem dX6_sale_15 : decode cX6_sale 15 = .ok (.invokestatic 76, 3) := by decide +kernel
theorem dX6_sale_18 : decode cX6_sale 18 = .ok (.ifCond .eq 12, 3) := by decide +kernel
theorem dX6_sale_21 : decode cX6_sale 21 = .ok (.iload_n 3, 1) := by decide +kernel
theorem dX6_sale_22 : decode cX6_sale 22 = .ok (.iconst 0, 1) := by decide +kernel
theorem dX6_sale_23 : decode cX6_sale 23 = .ok (.iconst 1, 1) := by decide +kernel
theorem dX6_sale_24 : decode cX6_sale 24 = .ok (.invokestatic 76, 3) := by decide +kernel
theorem dX6_sale_27 : decode cX6_sale 27 = .ok (.ifCond .ne 5, 3) := by decide +kernel
theorem dX6_sale_30 : decode cX6_sale 30 = .ok (.iconst (-1), 1) := by decide +kernel
theorem dX6_sale_31 : decode cX6_sale 31 = .ok (.ireturn, 1) := by decide +kernel
theorem dX6_sale_32 : decode cX6_sale 32 = .ok (.aload_n 0, 1) := by decide +kernel
theorem dX6_sale_33 : decode cX6_sale 33 = .ok (.invokevirtual 168, 3) := by decide +kernel
theorem dX6_sale_36 : decode cX6_sale 36 = .ok (.iconst 0, 1) := by decide +kernel
theorem dX6_sale_37 : decode cX6_sale 37 = .ok (.istore 4, 2) := by decide +kernel
theorem dX6_sale_39 : decode cX6_sale 39 = .ok (.iload 4, 2) := by decide +kernel
theorem dX6_sale_41 : decode cX6_sale 41 = .ok (.iload_n 2, 1) := by decide +kernel
theorem dX6_sale_42 : decode cX6_sale 42 = .ok (.if_icmp .ge 213, 3) := by decide +kernel
theorem dX6_sale_45 : decode cX6_sale 45 = .ok (.ldc2_w 201, 3) := by decide +kernel
theorem dX6_sale_48 : decode cX6_sale 48 = .ok (.iload_n 1, 1) := by decide +kernel
theorem dX6_sale_49 : decode cX6_sale 49 = .ok (.i2l, 1) := by decide +kernel
theorem dX6_sale_50 : decode cX6_sale 50 = .ok (.lmul, 1) := by decide +kernel
theorem dX6_sale_51 : decode cX6_sale 51 = .ok (.ldc2_w 203, 3) := by decide +kernel
theorem dX6_sale_54 : decode cX6_sale 54 = .ok (.iload 4, 2) := by decide +kernel
theorem dX6_sale_56 : decode cX6_sale 56 = .ok (.i2l, 1) := by decide +kernel
theorem dX6_sale_57 : decode cX6_sale 57 = .ok (.lmul, 1) := by decide +kernel
theorem dX6_sale_58 : decode cX6_sale 58 = .ok (.ladd, 1) := by decide +kernel
theorem dX6_sale_59 : decode cX6_sale 59 = .ok (.lconst 1, 1) := by decide +kernel
theorem dX6_sale_60 : decode cX6_sale 60 = .ok (.ladd, 1) := by decide +kernel
theorem dX6_sale_61 : decode cX6_sale 61 = .ok (.lstore 5, 2) := by decide +kernel
theorem dX6_sale_63 : decode cX6_sale 63 = .ok (.lload 5, 2) := by decide +kernel
theorem dX6_sale_65 : decode cX6_sale 65 = .ok (.lload 5, 2) := by decide +kernel
theorem dX6_sale_67 : decode cX6_sale 67 = .ok (.lmul, 1) := by decide +kernel
theorem dX6_sale_68 : decode cX6_sale 68 = .ok (.ldc2_w 205, 3) := by decide +kernel
theorem dX6_sale_71 : decode cX6_sale 71 = .ok (.lrem, 1) := by decide +kernel
theorem dX6_sale_72 : decode cX6_sale 72 = .ok (.ldc2_w 207, 3) := by decide +kernel
theorem dX6_sale_75 : decode cX6_sale 75 = .ok (.ldiv, 1) := by decide +kernel
theorem dX6_sale_76 : decode cX6_sale 76 = .ok (.l2i, 1) := by decide +kernel
theorem dX6_sale_77 : decode cX6_sale 77 = .ok (.istore 7, 2) := by decide +kernel
theorem dX6_sale_79 : decode cX6_sale 79 = .ok (.iload 7, 2) := by decide +kernel
theorem dX6_sale_81 : decode cX6_sale 81 = .ok (.aload_n 0, 1) := by decide +kernel
theorem dX6_sale_82 : decode cX6_sale 82 = .ok (.getfield 73, 3) := by decide +kernel
theorem dX6_sale_85 : decode cX6_sale 85 = .ok (.irem, 1) := by decide +kernel
theorem dX6_sale_86 : decode cX6_sale 86 = .ok (.istore 8, 2) := by decide +kernel
theorem dX6_sale_88 : decode cX6_sale 88 = .ok (.iload 7, 2) := by decide +kernel
theorem dX6_sale_90 : decode cX6_sale 90 = .ok (.bipush 8, 2) := by decide +kernel
theorem dX6_sale_92 : decode cX6_sale 92 = .ok (.idiv, 1) := by decide +kernel
theorem dX6_sale_93 : decode cX6_sale 93 = .ok (.iconst 3, 1) := by decide +kernel
theorem dX6_sale_94 : decode cX6_sale 94 = .ok (.irem, 1) := by decide +kernel
theorem dX6_sale_95 : decode cX6_sale 95 = .ok (.istore 9, 2) := by decide +kernel
theorem dX6_sale_97 : decode cX6_sale 97 = .ok (.iload 9, 2) := by decide +kernel
theorem dX6_sale_99 : decode cX6_sale 99 = .ok (.ifCond .ne 41, 3) := by decide +kernel
theorem dX6_sale_102 : decode cX6_sale 102 = .ok (.aload_n 0, 1) := by decide +kernel
theorem dX6_sale_103 : decode cX6_sale 103 = .ok (.iload 8, 2) := by decide +kernel
theorem dX6_sale_105 : decode cX6_sale 105 = .ok (.invokevirtual 159, 3) := by decide +kernel
theorem dX6_sale_108 : decode cX6_sale 108 = .ok (.ifCond .eq 32, 3) := by decide +kernel
theorem dX6_sale_111 : decode cX6_sale 111 = .ok (.aload_n 0, 1) := by decide +kernel
theorem dX6_sale_112 : decode cX6_sale 112 = .ok (.getfield 43, 3) := by decide +kernel
theorem dX6_sale_115 : decode cX6_sale 115 = .ok (.iconst 1, 1) := by decide +kernel
theorem dX6_sale_116 : decode cX6_sale 116 = .ok (.dup2, 1) := by decide +kernel
theorem dX6_sale_117 : decode cX6_sale 117 = .ok (.iaload, 1) := by decide +kernel
theorem dX6_sale_118 : decode cX6_sale 118 = .ok (.aload_n 0, 1) := by decide +kernel
theorem dX6_sale_119 : decode cX6_sale 119 = .ok (.iload 8, 2) := by decide +kernel
theorem dX6_sale_121 : decode cX6_sale 121 = .ok (.invokevirtual 162, 3) := by decide +kernel
theorem dX6_sale_124 : decode cX6_sale 124 = .ok (.ior, 1) := by decide +kernel
theorem dX6_sale_125 : decode cX6_sale 125 = .ok (.iastore, 1) := by decide +kernel
theorem dX6_sale_126 : decode cX6_sale 126 = .ok (.aload_n 0, 1) := by decide +kernel
theorem dX6_sale_127 : decode cX6_sale 127 = .ok (.getfield 43, 3) := by decide +kernel
theorem dX6_sale_130 : decode cX6_sale 130 = .ok (.bipush 10, 2) := by decide +kernel
theorem dX6_sale_132 : decode cX6_sale 132 = .ok (.iload 8, 2) := by decide +kernel
theorem dX6_sale_134 : decode cX6_sale 134 = .ok (.iadd, 1) := by decide +kernel
theorem dX6_sale_135 : decode cX6_sale 135 = .ok (.iconst 2, 1) := by decide +kernel
theorem dX6_sale_136 : decode cX6_sale 136 = .ok (.iastore, 1) := by decide +kernel
theorem dX6_sale_137 : decode cX6_sale 137 = .ok (.goto 112, 3) := by decide +kernel
theorem dX6_sale_140 : decode cX6_sale 140 = .ok (.iload 9, 2) := by decide +kernel
theorem dX6_sale_142 : decode cX6_sale 142 = .ok (.iconst 1, 1) := by decide +kernel
theorem dX6_sale_143 : decode cX6_sale 143 = .ok (.if_icmp .ne 70, 3) := by decide +kernel
theorem dX6_sale_146 : decode cX6_sale 146 = .ok (.aload_n 0, 1) := by decide +kernel
theorem dX6_sale_147 : decode cX6_sale 147 = .ok (.getfield 43, 3) := by decide +kernel
theorem dX6_sale_150 : decode cX6_sale 150 = .ok (.bipush 10, 2) := by decide +kernel
theorem dX6_sale_152 : decode cX6_sale 152 = .ok (.iload 8, 2) := by decide +kernel
theorem dX6_sale_154 : decode cX6_sale 154 = .ok (.iadd, 1) := by decide +kernel
theorem dX6_sale_155 : decode cX6_sale 155 = .ok (.iaload, 1) := by decide +kernel
theorem dX6_sale_156 : decode cX6_sale 156 = .ok (.ifCond .ne 57, 3) := by decide +kernel
theorem dX6_sale_159 : decode cX6_sale 159 = .ok (.aload_n 0, 1) := by decide +kernel
theorem dX6_sale_160 : decode cX6_sale 160 = .ok (.getfield 43, 3) := by decide +kernel
theorem dX6_sale_163 : decode cX6_sale 163 = .ok (.iconst 0, 1) := by decide +kernel
theorem dX6_sale_164 : decode cX6_sale 164 = .ok (.iaload, 1) := by decide +kernel
theorem dX6_sale_165 : decode cX6_sale 165 = .ok (.aload_n 0, 1) := by decide +kernel
theorem dX6_sale_166 : decode cX6_sale 166 = .ok (.getfield 7, 3) := by decide +kernel
theorem dX6_sale_169 : decode cX6_sale 169 = .ok (.iconst 2, 1) := by decide +kernel
theorem dX6_sale_170 : decode cX6_sale 170 = .ok (.iload 8, 2) := by decide +kernel
theorem dX6_sale_172 : decode cX6_sale 172 = .ok (.imul, 1) := by decide +kernel
theorem dX6_sale_173 : decode cX6_sale 173 = .ok (.iconst 1, 1) := by decide +kernel
theorem dX6_sale_174 : decode cX6_sale 174 = .ok (.iadd, 1) := by decide +kernel
theorem dX6_sale_175 : decode cX6_sale 175 = .ok (.iaload, 1) := by decide +kernel
theorem dX6_sale_176 : decode cX6_sale 176 = .ok (.if_icmp .lt 37, 3) := by decide +kernel
theorem dX6_sale_179 : decode cX6_sale 179 = .ok (.aload_n 0, 1) := by decide +kernel
theorem dX6_sale_180 : decode cX6_sale 180 = .ok (.getfield 43, 3) := by decide +kernel
theorem dX6_sale_183 : decode cX6_sale 183 = .ok (.bipush 10, 2) := by decide +kernel
theorem dX6_sale_185 : decode cX6_sale 185 = .ok (.iload 8, 2) := by decide +kernel
theorem dX6_sale_187 : decode cX6_sale 187 = .ok (.iadd, 1) := by decide +kernel
theorem dX6_sale_188 : decode cX6_sale 188 = .ok (.iconst 1, 1) := by decide +kernel
theorem dX6_sale_189 : decode cX6_sale 189 = .ok (.iastore, 1) := by decide +kernel
theorem dX6_sale_190 : decode cX6_sale 190 = .ok (.aload_n 0, 1) := by decide +kernel
theorem dX6_sale_191 : decode cX6_sale 191 = .ok (.getfield 43, 3) := by decide +kernel
theorem dX6_sale_194 : decode cX6_sale 194 = .ok (.iconst 0, 1) := by decide +kernel
theorem dX6_sale_195 : decode cX6_sale 195 = .ok (.dup2, 1) := by decide +kernel
theorem dX6_sale_196 : decode cX6_sale 196 = .ok (.iaload, 1) := by decide +kernel
theorem dX6_sale_197 : decode cX6_sale 197 = .ok (.aload_n 0, 1) := by decide +kernel
theorem dX6_sale_198 : decode cX6_sale 198 = .ok (.getfield 7, 3) := by decide +kernel
theorem dX6_sale_201 : decode cX6_sale 201 = .ok (.iconst 2, 1) := by decide +kernel
theorem dX6_sale_202 : decode cX6_sale 202 = .ok (.iload 8, 2) := by decide +kernel
theorem dX6_sale_204 : decode cX6_sale 204 = .ok (.imul, 1) := by decide +kernel
theorem dX6_sale_205 : decode cX6_sale 205 = .ok (.iconst 1, 1) := by decide +kernel
theorem dX6_sale_206 : decode cX6_sale 206 = .ok (.iadd, 1) := by decide +kernel
theorem dX6_sale_207 : decode cX6_sale 207 = .ok (.iaload, 1) := by decide +kernel
theorem dX6_sale_208 : decode cX6_sale 208 = .ok (.isub, 1) := by decide +kernel
theorem dX6_sale_209 : decode cX6_sale 209 = .ok (.iastore, 1) := by decide +kernel
theorem dX6_sale_210 : decode cX6_sale 210 = .ok (.goto 39, 3) := by decide +kernel
theorem dX6_sale_213 : decode cX6_sale 213 = .ok (.iload 9, 2) := by decide +kernel
theorem dX6_sale_215 : decode cX6_sale 215 = .ok (.iconst 2, 1) := by decide +kernel
theorem dX6_sale_216 : decode cX6_sale 216 = .ok (.if_icmp .ne 33, 3) := by decide +kernel
theorem dX6_sale_219 : decode cX6_sale 219 = .ok (.aload_n 0, 1) := by decide +kernel
theorem dX6_sale_220 : decode cX6_sale 220 = .ok (.getfield 43, 3) := by decide +kernel
theorem dX6_sale_223 : decode cX6_sale 223 = .ok (.bipush 10, 2) := by decide +kernel
theorem dX6_sale_225 : decode cX6_sale 225 = .ok (.iload 8, 2) := by decide +kernel
theorem dX6_sale_227 : decode cX6_sale 227 = .ok (.iadd, 1) := by decide +kernel
theorem dX6_sale_228 : decode cX6_sale 228 = .ok (.iaload, 1) := by decide +kernel
theorem dX6_sale_229 : decode cX6_sale 229 = .ok (.iconst 2, 1) := by decide +kernel
theorem dX6_sale_230 : decode cX6_sale 230 = .ok (.if_icmp .eq 19, 3) := by decide +kernel
theorem dX6_sale_233 : decode cX6_sale 233 = .ok (.aload_n 0, 1) := by decide +kernel
theorem dX6_sale_234 : decode cX6_sale 234 = .ok (.getfield 43, 3) := by decide +kernel
theorem dX6_sale_237 : decode cX6_sale 237 = .ok (.iconst 2, 1) := by decide +kernel
theorem dX6_sale_238 : decode cX6_sale 238 = .ok (.iload 8, 2) := by decide +kernel
theorem dX6_sale_240 : decode cX6_sale 240 = .ok (.iadd, 1) := by decide +kernel
theorem dX6_sale_241 : decode cX6_sale 241 = .ok (.iload 7, 2) := by decide +kernel
theorem dX6_sale_243 : decode cX6_sale 243 = .ok (.bipush 32, 2) := by decide +kernel
theorem dX6_sale_245 : decode cX6_sale 245 = .ok (.idiv, 1) := by decide +kernel
theorem dX6_sale_246 : decode cX6_sale 246 = .ok (.iconst 4, 1) := by decide +kernel
theorem dX6_sale_247 : decode cX6_sale 247 = .ok (.irem, 1) := by decide +kernel
theorem dX6_sale_248 : decode cX6_sale 248 = .ok (.iastore, 1) := by decide +kernel
theorem dX6_sale_249 : decode cX6_sale 249 = .ok (.iinc 4 1, 3) := by decide +kernel
theorem dX6_sale_252 : decode cX6_sale 252 = .ok (.goto (-213), 3) := by decide +kernel
theorem dX6_sale_255 : decode cX6_sale 255 = .ok (.iload_n 3, 1) := by decide +kernel
theorem dX6_sale_256 : decode cX6_sale 256 = .ok (.ifCond .ne 12, 3) := by decide +kernel
theorem dX6_sale_259 : decode cX6_sale 259 = .ok (.aload_n 0, 1) := by decide +kernel
theorem dX6_sale_260 : decode cX6_sale 260 = .ok (.getfield 43, 3) := by decide +kernel
theorem dX6_sale_263 : decode cX6_sale 263 = .ok (.iconst 1, 1) := by decide +kernel
theorem dX6_sale_264 : decode cX6_sale 264 = .ok (.iaload, 1) := by decide +kernel
theorem dX6_sale_265 : decode cX6_sale 265 = .ok (.goto 9, 3) := by decide +kernel
theorem dX6_sale_268 : decode cX6_sale 268 = .ok (.aload_n 0, 1) := by decide +kernel
theorem dX6_sale_269 : decode cX6_sale 269 = .ok (.getfield 43, 3) := by decide +kernel
theorem dX6_sale_272 : decode cX6_sale 272 = .ok (.iconst 0, 1) := by decide +kernel
theorem dX6_sale_273 : decode cX6_sale 273 = .ok (.iaload, 1) := by decide +kernel
theorem dX6_sale_274 : decode cX6_sale 274 = .ok (.ireturn, 1) := by decide +kernel
set_option maxRecDepth 20000 in
theorem ggX6_keep_X6_copies : GoodIn wsX6_keep wsX6_copies := goodIn_r _ [7] (by decide +kernel) (by decide +kernel)
set_option maxRecDepth 20000 in
theorem gX6_keep_X6_copies : GoodIn wsX6_keep (va_wsS RX6 123 yX6_copies wsX6_copies) := goodIn_app (goodIn_of _ (by decide +kernel)) ggX6_keep_X6_copies
theorem dX6_keep_0 : decode cX6_keep 0 = .ok (.aload_n 0, 1) := by decide +kernel
theorem dX6_keep_1 : decode cX6_keep 1 = .ok (.getfield 133, 3) := by decide +kernel
theorem dX6_keep_4 : decode cX6_keep 4 = .ok (.iconst 2, 1) := by decide +kernel
theorem dX6_keep_5 : decode cX6_keep 5 = .ok (.if_icmp .ne 6, 3) := by decide +kernel
theorem dX6_keep_8 : decode cX6_keep 8 = .ok (.bipush (-3), 2) := by decide +kernel
theorem dX6_keep_10 : decode cX6_keep 10 = .ok (.ireturn, 1) := by decide +kernel
theorem dX6_keep_11 : decode cX6_keep 11 = .ok (.aload_n 0, 1) := by decide +kernel
theorem dX6_keep_12 : decode cX6_keep 12 = .ok (.getfield 22, 3) := by decide +kernel
theorem dX6_keep_15 : decode cX6_keep 15 = .ok (.bipush 18, 2) := by decide +kernel
theorem dX6_keep_17 : decode cX6_keep 17 = .ok (.aload_n 0, 1) := by decide +kernel
theorem dX6_keep_18 : decode cX6_keep 18 = .ok (.getfield 133, 3) := by decide +kernel
theorem dX6_keep_21 : decode cX6_keep 21 = .ok (.imul, 1) := by decide +kernel
theorem dX6_keep_22 : decode cX6_keep 22 = .ok (.aload_n 0, 1) := by decide +kernel
theorem dX6_keep_23 : decode cX6_keep 23 = .ok (.getfield 16, 3) := by decide +kernel
theorem dX6_keep_26 : decode cX6_keep 26 = .ok (.iconst 0, 1) := by decide +kernel
theorem dX6_keep_27 : decode cX6_keep 27 = .ok (.bipush 18, 2) := by decide +kernel
theorem dX6_keep_29 : decode cX6_keep 29 = .ok (.invokestatic 123, 3) := by decide +kernel
theorem dX6_keep_32 : decode cX6_keep 32 = .ok (.aload_n 0, 1) := by decide +kernel
theorem dX6_keep_33 : decode cX6_keep 33 = .ok (.dup, 1) := by decide +kernel
theorem dX6_keep_34 : decode cX6_keep 34 = .ok (.getfield 133, 3) := by decide +kernel
theorem dX6_keep_37 : decode cX6_keep 37 = .ok (.iconst 1, 1) := by decide +kernel
theorem dX6_keep_38 : decode cX6_keep 38 = .ok (.iadd, 1) := by decide +kernel
theorem dX6_keep_39 : decode cX6_keep 39 = .ok (.putfield 133, 3) := by decide +kernel
theorem dX6_keep_42 : decode cX6_keep 42 = .ok (.aload_n 0, 1) := by decide +kernel
theorem dX6_keep_43 : decode cX6_keep 43 = .ok (.getfield 133, 3) := by decide +kernel
theorem dX6_keep_46 : decode cX6_keep 46 = .ok (.ireturn, 1) := by decide +kernel
set_option maxRecDepth 20000 in
theorem ggX6_back_X6_copies : GoodIn wsX6_back wsX6_copies := goodIn_r _ [8] (by decide +kernel) (by decide +kernel)
set_option maxRecDepth 20000 in
theorem gX6_back_X6_copies : GoodIn wsX6_back (va_wsS RX6 123 yX6_copies wsX6_copies) := goodIn_app (goodIn_of _ (by decide +kernel)) ggX6_back_X6_copies
theorem dX6_back_0 : decode cX6_back 0 = .ok (.aload_n 0, 1) := by decide +kernel
theorem dX6_back_1 : decode cX6_back 1 = .ok (.getfield 133, 3) := by decide +kernel
theorem dX6_back_4 : decode cX6_back 4 = .ok (.ifCond .ne 6, 3) := by decide +kernel
theorem dX6_back_7 : decode cX6_back 7 = .ok (.bipush (-2), 2) := by decide +kernel
theorem dX6_back_9 : decode cX6_back 9 = .ok (.ireturn, 1) := by decide +kernel
theorem dX6_back_10 : decode cX6_back 10 = .ok (.aload_n 0, 1) := by decide +kernel
theorem dX6_back_11 : decode cX6_back 11 = .ok (.dup, 1) := by decide +kernel
theorem dX6_back_12 : decode cX6_back 12 = .ok (.getfield 133, 3) := by decide +kernel
theorem dX6_back_15 : decode cX6_back 15 = .ok (.iconst 1, 1) := by decide +kernel
theorem dX6_back_16 : decode cX6_back 16 = .ok (.isub, 1) := by decide +kernel
theorem dX6_back_17 : decode cX6_back 17 = .ok (.putfield 133, 3) := by decide +kernel
theorem dX6_back_20 : decode cX6_back 20 = .ok (.aload_n 0, 1) := by decide +kernel
theorem dX6_back_21 : decode cX6_back 21 = .ok (.getfield 16, 3) := by decide +kernel
theorem dX6_back_24 : decode cX6_back 24 = .ok (.iconst 0, 1) := by decide +kernel
theorem dX6_back_25 : decode cX6_back 25 = .ok (.aload_n 0, 1) := by decide +kernel
theorem dX6_back_26 : decode cX6_back 26 = .ok (.getfield 22, 3) := by decide +kernel
theorem dX6_back_29 : decode cX6_back 29 = .ok (.bipush 18, 2) := by decide +kernel
theorem dX6_back_31 : decode cX6_back 31 = .ok (.aload_n 0, 1) := by decide +kernel
theorem dX6_back_32 : decode cX6_back 32 = .ok (.getfield 133, 3) := by decide +kernel
theorem dX6_back_35 : decode cX6_back 35 = .ok (.imul, 1) := by decide +kernel
theorem dX6_back_36 : decode cX6_back 36 = .ok (.bipush 18, 2) := by decide +kernel
theorem dX6_back_38 : decode cX6_back 38 = .ok (.invokestatic 123, 3) := by decide +kernel
theorem dX6_back_41 : decode cX6_back 41 = .ok (.aload_n 0, 1) := by decide +kernel
theorem dX6_back_42 : decode cX6_back 42 = .ok (.iconst 0, 1) := by decide +kernel
theorem dX6_back_43 : decode cX6_back 43 = .ok (.putfield 130, 3) := by decide +kernel
theorem dX6_back_46 : decode cX6_back 46 = .ok (.aload_n 0, 1) := by decide +kernel
theorem dX6_back_47 : decode cX6_back 47 = .ok (.getfield 133, 3) := by decide +kernel
theorem dX6_back_50 : decode cX6_back 50 = .ok (.ireturn, 1) := by decide +kernel
theorem dX6_manyAre_0 : decode cX6_manyAre 0 = .ok (.iconst 0, 1) := by decide +kernel
theorem dX6_manyAre_1 : decode cX6_manyAre 1 = .ok (.istore_n 2, 1) := by decide +kernel
theorem dX6_manyAre_2 : decode cX6_manyAre 2 = .ok (.iconst 0, 1) := by decide +kernel
theorem dX6_manyAre_3 : decode cX6_manyAre 3 = .ok (.istore_n 3, 1) := by decide +kernel
theorem dX6_manyAre_4 : decode cX6_manyAre 4 = .ok (.iload_n 3, 1) := by decide +kernel
theorem dX6_manyAre_5 : decode cX6_manyAre 5 = .ok (.aload_n 0, 1) := by decide +kernel
theorem dX6_manyAre_6 : decode cX6_manyAre 6 = .ok (.getfield 73, 3) := by decide +kernel
theorem dX6_manyAre_9 : decode cX6_manyAre 9 = .ok (.if_icmp .ge 30, 3) := by decide +kernel
theorem dX6_manyAre_12 : decode cX6_manyAre 12 = .ok (.iload_n 2, 1) := by decide +kernel
theorem dX6_manyAre_13 : decode cX6_manyAre 13 = .ok (.aload_n 0, 1) := by decide +kernel
theorem dX6_manyAre_14 : decode cX6_manyAre 14 = .ok (.getfield 16, 3) := by decide +kernel
theorem dX6_manyAre_17 : decode cX6_manyAre 17 = .ok (.bipush 10, 2) := by decide +kernel
theorem dX6_manyAre_19 : decode cX6_manyAre 19 = .ok (.iload_n 3, 1) := by decide +kernel
theorem dX6_manyAre_20 : decode cX6_manyAre 20 = .ok (.iadd, 1) := by decide +kernel
theorem dX6_manyAre_21 : decode cX6_manyAre 21 = .ok (.iaload, 1) := by decide +kernel
theorem dX6_manyAre_22 : decode cX6_manyAre 22 = .ok (.iload_n 1, 1) := by decide +kernel
theorem dX6_manyAre_23 : decode cX6_manyAre 23 = .ok (.if_icmp .ne 7, 3) := by decide +kernel
theorem dX6_manyAre_26 : decode cX6_manyAre 26 = .ok (.iconst 1, 1) := by decide +kernel
theorem dX6_manyAre_27 : decode cX6_manyAre 27 = .ok (.goto 4, 3) := by decide +kernel
theorem dX6_manyAre_30 : decode cX6_manyAre 30 = .ok (.iconst 0, 1) := by decide +kernel
theorem dX6_manyAre_31 : decode cX6_manyAre 31 = .ok (.iadd, 1) := by decide +kernel
theorem dX6_manyAre_32 : decode cX6_manyAre 32 = .ok (.istore_n 2, 1) := by decide +kernel
theorem dX6_manyAre_33 : decode cX6_manyAre 33 = .ok (.iinc 3 1, 3) := by decide +kernel
theorem dX6_manyAre_36 : decode cX6_manyAre 36 = .ok (.goto (-32), 3) := by decide +kernel
theorem dX6_manyAre_39 : decode cX6_manyAre 39 = .ok (.iload_n 2, 1) := by decide +kernel
theorem dX6_manyAre_40 : decode cX6_manyAre 40 = .ok (.ireturn, 1) := by decide +kernel
set_option maxRecDepth 20000 in
theorem ggX6_count_X6_asItIs : GoodIn wsX6_count wsX6_asItIs := goodIn_r _ [12, 13, 3, 14, 15, 11, 16, 37, 38, 39, 40, 41, 42, 43, 44, 45, 46, 47, 48, 49, 50, 51, 52, 53, 54, 55, 56, 57, 58, 59, 60] (by decide +kernel) (by decide +kernel)
set_option maxRecDepth 20000 in
theorem gX6_count_X6_asItIs : GoodIn wsX6_count (wsV RX6 168 RX6 yX6_asItIs wsX6_asItIs) := goodIn_app (goodIn_of _ (by decide +kernel)) ggX6_count_X6_asItIs
set_option maxRecDepth 20000 in
theorem ggX6_count_X6_loose : GoodIn wsX6_count wsX6_loose := goodIn_r _ [20, 1, 21, 22, 23, 11, 24, 13, 25, 26, 27, 28, 29, 37, 38, 39, 40, 41, 42, 43, 44, 45, 46, 47, 48, 49, 50, 51, 52, 53, 54, 55, 56, 57, 58, 59, 60] (by decide +kernel) (by decide +kernel)
set_option maxRecDepth 20000 in
theorem gX6_count_X6_loose : GoodIn wsX6_count (wsV RX6 183 RX6 yX6_loose wsX6_loose) := goodIn_app (goodIn_of _ (by decide +kernel)) ggX6_count_X6_loose
set_option maxRecDepth 20000 in
theorem ggX6_count_X6_bits : GoodIn wsX6_count wsX6_bits := goodIn_r _ [32] (by decide +kernel) (by decide +kernel)
set_option maxRecDepth 20000 in
theorem gX6_count_X6_bits : GoodIn wsX6_count (va_wsS RX6 180 yX6_bits wsX6_bits) := goodIn_app (goodIn_of _ (by decide +kernel)) ggX6_count_X6_bits
set_option maxRecDepth 20000 in
theorem ggX6_count_X6_manyAre : GoodIn wsX6_count wsX6_manyAre := goodIn_r _ [36, 1, 3, 37, 38, 39, 40, 41, 42, 43, 44, 45, 46, 47, 48, 49, 50, 51, 52, 53, 54, 55, 56, 57, 58, 59, 60] (by decide +kernel) (by decide +kernel)
set_option maxRecDepth 20000 in
theorem gX6_count_X6_manyAre : GoodIn wsX6_count (wsV RX6 209 RX6 yX6_manyAre wsX6_manyAre) := goodIn_app (goodIn_of _ (by decide +kernel)) ggX6_count_X6_manyAre
theorem dX6_count_0 : decode cX6_count 0 = .ok (.aload_n 0, 1) := by decide +kernel
theorem dX6_count_1 : decode cX6_count 1 = .ok (.invokevirtual 168, 3) := by decide +kernel
theorem dX6_count_4 : decode cX6_count 4 = .ok (.iload_n 1, 1) := by decide +kernel
theorem dX6_count_5 : decode cX6_count 5 = .ok (.tableswitch 126 0 10 #[59, 64, 69, 76, 84, 90, 96, 106, 111, 116, 121], 59) := by decide +kernel
theorem dX6_count_64 : decode cX6_count 64 = .ok (.aload_n 0, 1) := by decide +kernel
theorem dX6_count_65 : decode cX6_count 65 = .ok (.getfield 73, 3) := by decide +kernel
theorem dX6_count_68 : decode cX6_count 68 = .ok (.ireturn, 1) := by decide +kernel
theorem dX6_count_69 : decode cX6_count 69 = .ok (.aload_n 0, 1) := by decide +kernel
theorem dX6_count_70 : decode cX6_count 70 = .ok (.getfield 80, 3) := by decide +kernel
theorem dX6_count_73 : decode cX6_count 73 = .ok (.ireturn, 1) := by decide +kernel
theorem dX6_count_74 : decode cX6_count 74 = .ok (.aload_n 0, 1) := by decide +kernel
theorem dX6_count_75 : decode cX6_count 75 = .ok (.getfield 16, 3) := by decide +kernel
theorem dX6_count_78 : decode cX6_count 78 = .ok (.iconst 0, 1) := by decide +kernel
theorem dX6_count_79 : decode cX6_count 79 = .ok (.iaload, 1) := by decide +kernel
theorem dX6_count_80 : decode cX6_count 80 = .ok (.ireturn, 1) := by decide +kernel
theorem dX6_count_81 : decode cX6_count 81 = .ok (.aload_n 0, 1) := by decide +kernel
theorem dX6_count_82 : decode cX6_count 82 = .ok (.invokevirtual 183, 3) := by decide +kernel
theorem dX6_count_85 : decode cX6_count 85 = .ok (.invokestatic 180, 3) := by decide +kernel
theorem dX6_count_88 : decode cX6_count 88 = .ok (.ireturn, 1) := by decide +kernel
theorem dX6_count_89 : decode cX6_count 89 = .ok (.aload_n 0, 1) := by decide +kernel
theorem dX6_count_90 : decode cX6_count 90 = .ok (.iconst 1, 1) := by decide +kernel
theorem dX6_count_91 : decode cX6_count 91 = .ok (.invokevirtual 209, 3) := by decide +kernel
theorem dX6_count_94 : decode cX6_count 94 = .ok (.ireturn, 1) := by decide +kernel
theorem dX6_count_95 : decode cX6_count 95 = .ok (.aload_n 0, 1) := by decide +kernel
theorem dX6_count_96 : decode cX6_count 96 = .ok (.iconst 2, 1) := by decide +kernel
theorem dX6_count_97 : decode cX6_count 97 = .ok (.invokevirtual 209, 3) := by decide +kernel
theorem dX6_count_100 : decode cX6_count 100 = .ok (.ireturn, 1) := by decide +kernel
theorem dX6_count_101 : decode cX6_count 101 = .ok (.aload_n 0, 1) := by decide +kernel
theorem dX6_count_102 : decode cX6_count 102 = .ok (.getfield 16, 3) := by decide +kernel
theorem dX6_count_105 : decode cX6_count 105 = .ok (.iconst 1, 1) := by decide +kernel
theorem dX6_count_106 : decode cX6_count 106 = .ok (.iaload, 1) := by decide +kernel
theorem dX6_count_107 : decode cX6_count 107 = .ok (.invokestatic 180, 3) := by decide +kernel
theorem dX6_count_110 : decode cX6_count 110 = .ok (.ireturn, 1) := by decide +kernel
theorem dX6_count_111 : decode cX6_count 111 = .ok (.aload_n 0, 1) := by decide +kernel
theorem dX6_count_112 : decode cX6_count 112 = .ok (.getfield 136, 3) := by decide +kernel
theorem dX6_count_115 : decode cX6_count 115 = .ok (.ireturn, 1) := by decide +kernel
theorem dX6_count_116 : decode cX6_count 116 = .ok (.aload_n 0, 1) := by decide +kernel
theorem dX6_count_117 : decode cX6_count 117 = .ok (.getfield 130, 3) := by decide +kernel
theorem dX6_count_120 : decode cX6_count 120 = .ok (.ireturn, 1) := by decide +kernel
theorem dX6_count_121 : decode cX6_count 121 = .ok (.aload_n 0, 1) := by decide +kernel
theorem dX6_count_122 : decode cX6_count 122 = .ok (.getfield 133, 3) := by decide +kernel
theorem dX6_count_125 : decode cX6_count 125 = .ok (.ireturn, 1) := by decide +kernel
theorem dX6_count_126 : decode cX6_count 126 = .ok (.aload_n 0, 1) := by decide +kernel
theorem dX6_count_127 : decode cX6_count 127 = .ok (.getfield 83, 3) := by decide +kernel
theorem dX6_count_130 : decode cX6_count 130 = .ok (.ireturn, 1) := by decide +kernel
theorem dX6_count_131 : decode cX6_count 131 = .ok (.iconst (-1), 1) := by decide +kernel
theorem dX6_count_132 : decode cX6_count 132 = .ok (.ireturn, 1) := by decide +kernel
theorem dJ6_bitCount_0f7a4_0 : decode cJ6_bitCount_0f7a4 0 = .ok (.iload_n 0, 1) := by decide +kernel
theorem dJ6_bitCount_0f7a4_1 : decode cJ6_bitCount_0f7a4 1 = .ok (.iload_n 0, 1) := by decide +kernel
theorem dJ6_bitCount_0f7a4_2 : decode cJ6_bitCount_0f7a4 2 = .ok (.iconst 1, 1) := by decide +kernel
theorem dJ6_bitCount_0f7a4_3 : decode cJ6_bitCount_0f7a4 3 = .ok (.iushr, 1) := by decide +kernel
theorem dJ6_bitCount_0f7a4_4 : decode cJ6_bitCount_0f7a4 4 = .ok (.ldc_w 265, 3) := by decide +kernel
theorem dJ6_bitCount_0f7a4_7 : decode cJ6_bitCount_0f7a4 7 = .ok (.iand, 1) := by decide +kernel
theorem dJ6_bitCount_0f7a4_8 : decode cJ6_bitCount_0f7a4 8 = .ok (.isub, 1) := by decide +kernel
theorem dJ6_bitCount_0f7a4_9 : decode cJ6_bitCount_0f7a4 9 = .ok (.istore_n 0, 1) := by decide +kernel
theorem dJ6_bitCount_0f7a4_10 : decode cJ6_bitCount_0f7a4 10 = .ok (.iload_n 0, 1) := by decide +kernel
theorem dJ6_bitCount_0f7a4_11 : decode cJ6_bitCount_0f7a4 11 = .ok (.ldc_w 266, 3) := by decide +kernel
theorem dJ6_bitCount_0f7a4_14 : decode cJ6_bitCount_0f7a4 14 = .ok (.iand, 1) := by decide +kernel
theorem dJ6_bitCount_0f7a4_15 : decode cJ6_bitCount_0f7a4 15 = .ok (.iload_n 0, 1) := by decide +kernel
theorem dJ6_bitCount_0f7a4_16 : decode cJ6_bitCount_0f7a4 16 = .ok (.iconst 2, 1) := by decide +kernel
theorem dJ6_bitCount_0f7a4_17 : decode cJ6_bitCount_0f7a4 17 = .ok (.iushr, 1) := by decide +kernel
theorem dJ6_bitCount_0f7a4_18 : decode cJ6_bitCount_0f7a4 18 = .ok (.ldc_w 266, 3) := by decide +kernel
theorem dJ6_bitCount_0f7a4_21 : decode cJ6_bitCount_0f7a4 21 = .ok (.iand, 1) := by decide +kernel
theorem dJ6_bitCount_0f7a4_22 : decode cJ6_bitCount_0f7a4 22 = .ok (.iadd, 1) := by decide +kernel
theorem dJ6_bitCount_0f7a4_23 : decode cJ6_bitCount_0f7a4 23 = .ok (.istore_n 0, 1) := by decide +kernel
theorem dJ6_bitCount_0f7a4_24 : decode cJ6_bitCount_0f7a4 24 = .ok (.iload_n 0, 1) := by decide +kernel
theorem dJ6_bitCount_0f7a4_25 : decode cJ6_bitCount_0f7a4 25 = .ok (.iload_n 0, 1) := by decide +kernel
theorem dJ6_bitCount_0f7a4_26 : decode cJ6_bitCount_0f7a4 26 = .ok (.iconst 4, 1) := by decide +kernel
theorem dJ6_bitCount_0f7a4_27 : decode cJ6_bitCount_0f7a4 27 = .ok (.iushr, 1) := by decide +kernel
theorem dJ6_bitCount_0f7a4_28 : decode cJ6_bitCount_0f7a4 28 = .ok (.iadd, 1) := by decide +kernel
theorem dJ6_bitCount_0f7a4_29 : decode cJ6_bitCount_0f7a4 29 = .ok (.ldc_w 267, 3) := by decide +kernel
theorem dJ6_bitCount_0f7a4_32 : decode cJ6_bitCount_0f7a4 32 = .ok (.iand, 1) := by decide +kernel
theorem dJ6_bitCount_0f7a4_33 : decode cJ6_bitCount_0f7a4 33 = .ok (.istore_n 0, 1) := by decide +kernel
theorem dJ6_bitCount_0f7a4_34 : decode cJ6_bitCount_0f7a4 34 = .ok (.iload_n 0, 1) := by decide +kernel
theorem dJ6_bitCount_0f7a4_35 : decode cJ6_bitCount_0f7a4 35 = .ok (.iload_n 0, 1) := by decide +kernel
theorem dJ6_bitCount_0f7a4_36 : decode cJ6_bitCount_0f7a4 36 = .ok (.bipush 8, 2) := by decide +kernel
theorem dJ6_bitCount_0f7a4_38 : decode cJ6_bitCount_0f7a4 38 = .ok (.iushr, 1) := by decide +kernel
theorem dJ6_bitCount_0f7a4_39 : decode cJ6_bitCount_0f7a4 39 = .ok (.iadd, 1) := by decide +kernel
theorem dJ6_bitCount_0f7a4_40 : decode cJ6_bitCount_0f7a4 40 = .ok (.istore_n 0, 1) := by decide +kernel
theorem dJ6_bitCount_0f7a4_41 : decode cJ6_bitCount_0f7a4 41 = .ok (.iload_n 0, 1) := by decide +kernel
theorem dJ6_bitCount_0f7a4_42 : decode cJ6_bitCount_0f7a4 42 = .ok (.iload_n 0, 1) := by decide +kernel
theorem dJ6_bitCount_0f7a4_43 : decode cJ6_bitCount_0f7a4 43 = .ok (.bipush 16, 2) := by decide +kernel
theorem dJ6_bitCount_0f7a4_45 : decode cJ6_bitCount_0f7a4 45 = .ok (.iushr, 1) := by decide +kernel
theorem dJ6_bitCount_0f7a4_46 : decode cJ6_bitCount_0f7a4 46 = .ok (.iadd, 1) := by decide +kernel
theorem dJ6_bitCount_0f7a4_47 : decode cJ6_bitCount_0f7a4 47 = .ok (.istore_n 0, 1) := by decide +kernel
theorem dJ6_bitCount_0f7a4_48 : decode cJ6_bitCount_0f7a4 48 = .ok (.iload_n 0, 1) := by decide +kernel
theorem dJ6_bitCount_0f7a4_49 : decode cJ6_bitCount_0f7a4 49 = .ok (.bipush 63, 2) := by decide +kernel
theorem dJ6_bitCount_0f7a4_51 : decode cJ6_bitCount_0f7a4 51 = .ok (.iand, 1) := by decide +kernel
theorem dJ6_bitCount_0f7a4_52 : decode cJ6_bitCount_0f7a4 52 = .ok (.ireturn, 1) := by decide +kernel
theorem dJ9_max_7cf53_0 : decode cJ9_max_7cf53 0 = .ok (.iload_n 0, 1) := by decide +kernel
theorem dJ9_max_7cf53_1 : decode cJ9_max_7cf53 1 = .ok (.iload_n 1, 1) := by decide +kernel
theorem dJ9_max_7cf53_2 : decode cJ9_max_7cf53 2 = .ok (.if_icmp .lt 7, 3) := by decide +kernel
theorem dJ9_max_7cf53_5 : decode cJ9_max_7cf53 5 = .ok (.iload_n 0, 1) := by decide +kernel
theorem dJ9_max_7cf53_6 : decode cJ9_max_7cf53 6 = .ok (.goto 4, 3) := by decide +kernel
theorem dJ9_max_7cf53_9 : decode cJ9_max_7cf53 9 = .ok (.iload_n 1, 1) := by decide +kernel
theorem dJ9_max_7cf53_10 : decode cJ9_max_7cf53 10 = .ok (.ireturn, 1) := by decide +kernel
theorem dJ9_min_7cf53_0 : decode cJ9_min_7cf53 0 = .ok (.iload_n 0, 1) := by decide +kernel
theorem dJ9_min_7cf53_1 : decode cJ9_min_7cf53 1 = .ok (.iload_n 1, 1) := by decide +kernel
theorem dJ9_min_7cf53_2 : decode cJ9_min_7cf53 2 = .ok (.if_icmp .gt 7, 3) := by decide +kernel
theorem dJ9_min_7cf53_5 : decode cJ9_min_7cf53 5 = .ok (.iload_n 0, 1) := by decide +kernel
theorem dJ9_min_7cf53_6 : decode cJ9_min_7cf53 6 = .ok (.goto 4, 3) := by decide +kernel
theorem dJ9_min_7cf53_9 : decode cJ9_min_7cf53 9 = .ok (.iload_n 1, 1) := by decide +kernel
theorem dJ9_min_7cf53_10 : decode cJ9_min_7cf53 10 = .ok (.ireturn, 1) := by decide +kernel
set_option maxRecDepth 20000 in
theorem ggJ0_length_8abf5_J0_coder_7d493 : GoodIn wsJ0_length_8abf5 wsJ0_coder_7d493 := goodIn_r _ [6, 7, 8] (by decide +kernel) (by decide +kernel)
set_option maxRecDepth 20000 in
theorem gJ0_length_8abf5_J0_coder_7d493 : GoodIn wsJ0_length_8abf5 (wsV RJ0 335 RJ0 yJ0_coder_7d493 wsJ0_coder_7d493) := goodIn_app (goodIn_of _ (by decide +kernel)) ggJ0_length_8abf5_J0_coder_7d493
theorem dJ0_length_8abf5_0 : decode cJ0_length_8abf5 0 = .ok (.aload_n 0, 1) := by decide +kernel
theorem dJ0_length_8abf5_1 : decode cJ0_length_8abf5 1 = .ok (.getfield 9, 3) := by decide +kernel
theorem dJ0_length_8abf5_4 : decode cJ0_length_8abf5 4 = .ok (.arraylength, 1) := by decide +kernel
theorem dJ0_length_8abf5_5 : decode cJ0_length_8abf5 5 = .ok (.aload_n 0, 1) := by decide +kernel
theorem dJ0_length_8abf5_6 : decode cJ0_length_8abf5 6 = .ok (.invokevirtual 335, 3) := by decide +kernel
theorem dJ0_length_8abf5_9 : decode cJ0_length_8abf5 9 = .ok (.ishr, 1) := by decide +kernel
theorem dJ0_length_8abf5_10 : decode cJ0_length_8abf5 10 = .ok (.ireturn, 1) := by decide +kernel
set_option maxRecDepth 20000 in
theorem ggJ0_charAt_5068e_J0_isLatin1_aae02 : GoodIn wsJ0_charAt_5068e wsJ0_isLatin1_aae02 := goodIn_r _ [6, 7, 8] (by decide +kernel) (by decide +kernel)
set_option maxRecDepth 20000 in
theorem gJ0_charAt_5068e_J0_isLatin1_aae02 : GoodIn wsJ0_charAt_5068e (wsV RJ0 492 RJ0 yJ0_isLatin1_aae02 wsJ0_isLatin1_aae02) := goodIn_app (goodIn_of _ (by decide +kernel)) ggJ0_charAt_5068e_J0_isLatin1_aae02
set_option maxRecDepth 20000 in
theorem ggJ0_charAt_5068e_J1_charAt_3b067 : GoodIn wsJ0_charAt_5068e wsJ1_charAt_3b067 := goodIn_r _ [12, 13, 14, 5, 15, 16, 17, 18, 19, 20] (by decide +kernel) (by decide +kernel)
set_option maxRecDepth 20000 in
theorem gJ0_charAt_5068e_J1_charAt_3b067 : GoodIn wsJ0_charAt_5068e (va_wsS RJ0 495 yJ1_charAt_3b067 wsJ1_charAt_3b067) := goodIn_app (goodIn_of _ (by decide +kernel)) ggJ0_charAt_5068e_J1_charAt_3b067
set_option maxRecDepth 20000 in
theorem ggJ0_charAt_5068e_J2_charAt_3b067 : GoodIn wsJ0_charAt_5068e wsJ2_charAt_3b067 := goodIn_r _ [24, 25, 26, 23, 27, 28, 29, 30, 31, 14, 5, 15, 16, 17, 18, 19, 20, 32, 33, 34, 35, 36, 37] (by decide +kernel) (by decide +kernel)
set_option maxRecDepth 20000 in
theorem gJ0_charAt_5068e_J2_charAt_3b067 : GoodIn wsJ0_charAt_5068e (va_wsS RJ0 498 yJ2_charAt_3b067 wsJ2_charAt_3b067) := goodIn_app (goodIn_of _ (by decide +kernel)) ggJ0_charAt_5068e_J2_charAt_3b067
theorem dJ0_charAt_5068e_0 : decode cJ0_charAt_5068e 0 = .ok (.aload_n 0, 1) := by decide +kernel
theorem dJ0_charAt_5068e_1 : decode cJ0_charAt_5068e 1 = .ok (.invokevirtual 492, 3) := by decide +kernel
theorem dJ0_charAt_5068e_4 : decode cJ0_charAt_5068e 4 = .ok (.ifCond .eq 12, 3) := by decide +kernel
theorem dJ0_charAt_5068e_7 : decode cJ0_charAt_5068e 7 = .ok (.aload_n 0, 1) := by decide +kernel
theorem dJ0_charAt_5068e_8 : decode cJ0_charAt_5068e 8 = .ok (.getfield 9, 3) := by decide +kernel
theorem dJ0_charAt_5068e_11 : decode cJ0_charAt_5068e 11 = .ok (.iload_n 1, 1) := by decide +kernel
theorem dJ0_charAt_5068e_12 : decode cJ0_charAt_5068e 12 = .ok (.invokestatic 495, 3) := by decide +kernel
theorem dJ0_charAt_5068e_15 : decode cJ0_charAt_5068e 15 = .ok (.ireturn, 1) := by decide +kernel
theorem dJ0_charAt_5068e_16 : decode cJ0_charAt_5068e 16 = .ok (.aload_n 0, 1) := by decide +kernel
theorem dJ0_charAt_5068e_17 : decode cJ0_charAt_5068e 17 = .ok (.getfield 9, 3) := by decide +kernel
theorem dJ0_charAt_5068e_20 : decode cJ0_charAt_5068e 20 = .ok (.iload_n 1, 1) := by decide +kernel
theorem dJ0_charAt_5068e_21 : decode cJ0_charAt_5068e 21 = .ok (.invokestatic 498, 3) := by decide +kernel
theorem dJ0_charAt_5068e_24 : decode cJ0_charAt_5068e 24 = .ok (.ireturn, 1) := by decide +kernel
theorem dJ0_coder_7d493_0 : decode cJ0_coder_7d493 0 = .ok (.getstatic 38, 3) := by decide +kernel
theorem dJ0_coder_7d493_3 : decode cJ0_coder_7d493 3 = .ok (.ifCond .eq 10, 3) := by decide +kernel
theorem dJ0_coder_7d493_6 : decode cJ0_coder_7d493 6 = .ok (.aload_n 0, 1) := by decide +kernel
theorem dJ0_coder_7d493_7 : decode cJ0_coder_7d493 7 = .ok (.getfield 15, 3) := by decide +kernel
theorem dJ0_coder_7d493_10 : decode cJ0_coder_7d493 10 = .ok (.goto 4, 3) := by decide +kernel
theorem dJ0_coder_7d493_13 : decode cJ0_coder_7d493 13 = .ok (.iconst 1, 1) := by decide +kernel
theorem dJ0_coder_7d493_14 : decode cJ0_coder_7d493 14 = .ok (.ireturn, 1) := by decide +kernel
theorem dJ0_isLatin1_aae02_0 : decode cJ0_isLatin1_aae02 0 = .ok (.getstatic 38, 3) := by decide +kernel
theorem dJ0_isLatin1_aae02_3 : decode cJ0_isLatin1_aae02 3 = .ok (.ifCond .eq 14, 3) := by decide +kernel
theorem dJ0_isLatin1_aae02_6 : decode cJ0_isLatin1_aae02 6 = .ok (.aload_n 0, 1) := by decide +kernel
theorem dJ0_isLatin1_aae02_7 : decode cJ0_isLatin1_aae02 7 = .ok (.getfield 15, 3) := by decide +kernel
theorem dJ0_isLatin1_aae02_10 : decode cJ0_isLatin1_aae02 10 = .ok (.ifCond .ne 7, 3) := by decide +kernel
theorem dJ0_isLatin1_aae02_13 : decode cJ0_isLatin1_aae02 13 = .ok (.iconst 1, 1) := by decide +kernel
theorem dJ0_isLatin1_aae02_14 : decode cJ0_isLatin1_aae02 14 = .ok (.goto 4, 3) := by decide +kernel
theorem dJ0_isLatin1_aae02_17 : decode cJ0_isLatin1_aae02 17 = .ok (.iconst 0, 1) := by decide +kernel
theorem dJ0_isLatin1_aae02_18 : decode cJ0_isLatin1_aae02 18 = .ok (.ireturn, 1) := by decide +kernel
set_option maxRecDepth 20000 in
theorem ggJ0_checkIndex_df160_J3_checkIndex_8e157 : GoodIn wsJ0_checkIndex_df160 wsJ3_checkIndex_8e157 := goodIn_r _ [5] (by decide +kernel) (by decide +kernel)
set_option maxRecDepth 20000 in
theorem gJ0_checkIndex_df160_J3_checkIndex_8e157 : GoodIn wsJ0_checkIndex_df160 (va_wsS RJ0 1059 yJ3_checkIndex_8e157 wsJ3_checkIndex_8e157) := goodIn_app (goodIn_of _ (by decide +kernel)) ggJ0_checkIndex_df160_J3_checkIndex_8e157
theorem dJ0_checkIndex_df160_0 : decode cJ0_checkIndex_df160 0 = .ok (.iload_n 0, 1) := by decide +kernel
theorem dJ0_checkIndex_df160_1 : decode cJ0_checkIndex_df160 1 = .ok (.iload_n 1, 1) := by decide +kernel
theorem dJ0_checkIndex_df160_2 : decode cJ0_checkIndex_df160 2 = .ok (.getstatic 1053, 3) := by decide +kernel
theorem dJ0_checkIndex_df160_5 : decode cJ0_checkIndex_df160 5 = .ok (.invokestatic 1059, 3) := by decide +kernel
theorem dJ0_checkIndex_df160_8 : decode cJ0_checkIndex_df160 8 = .ok (.pop, 1) := by decide +kernel
theorem dJ0_checkIndex_df160_9 : decode cJ0_checkIndex_df160 9 = .ok (.return_, 1) := by decide +kernel
set_option maxRecDepth 20000 in
theorem ggJ1_charAt_3b067_J0_checkIndex_df160 : GoodIn wsJ1_charAt_3b067 wsJ0_checkIndex_df160 := goodIn_r _ [4, 5, 6, 7, 8, 9] (by decide +kernel) (by decide +kernel)
set_option maxRecDepth 20000 in
theorem gJ1_charAt_3b067_J0_checkIndex_df160 : GoodIn wsJ1_charAt_3b067 (va_wsS RJ1 9 yJ0_checkIndex_df160 wsJ0_checkIndex_df160) := goodIn_app (goodIn_of _ (by decide +kernel)) ggJ1_charAt_3b067_J0_checkIndex_df160
theorem dJ1_charAt_3b067_0 : decode cJ1_charAt_3b067 0 = .ok (.iload_n 1, 1) := by decide +kernel
theorem dJ1_charAt_3b067_1 : decode cJ1_charAt_3b067 1 = .ok (.aload_n 0, 1) := by decide +kernel
theorem dJ1_charAt_3b067_2 : decode cJ1_charAt_3b067 2 = .ok (.arraylength, 1) := by decide +kernel
theorem dJ1_charAt_3b067_3 : decode cJ1_charAt_3b067 3 = .ok (.invokestatic 9, 3) := by decide +kernel
theorem dJ1_charAt_3b067_6 : decode cJ1_charAt_3b067 6 = .ok (.aload_n 0, 1) := by decide +kernel
theorem dJ1_charAt_3b067_7 : decode cJ1_charAt_3b067 7 = .ok (.iload_n 1, 1) := by decide +kernel
theorem dJ1_charAt_3b067_8 : decode cJ1_charAt_3b067 8 = .ok (.baload, 1) := by decide +kernel
theorem dJ1_charAt_3b067_9 : decode cJ1_charAt_3b067 9 = .ok (.sipush 255, 3) := by decide +kernel
theorem dJ1_charAt_3b067_12 : decode cJ1_charAt_3b067 12 = .ok (.iand, 1) := by decide +kernel
theorem dJ1_charAt_3b067_13 : decode cJ1_charAt_3b067 13 = .ok (.i2c, 1) := by decide +kernel
theorem dJ1_charAt_3b067_14 : decode cJ1_charAt_3b067 14 = .ok (.ireturn, 1) := by decide +kernel
set_option maxRecDepth 20000 in
theorem ggJ2_getChar_3b067_J2_length_9d52b : GoodIn wsJ2_getChar_3b067 wsJ2_length_9d52b := goodIn_r _ [7] (by decide +kernel) (by decide +kernel)
set_option maxRecDepth 20000 in
theorem gJ2_getChar_3b067_J2_length_9d52b : GoodIn wsJ2_getChar_3b067 (va_wsS RJ2 48 yJ2_length_9d52b wsJ2_length_9d52b) := goodIn_app (goodIn_of _ (by decide +kernel)) ggJ2_getChar_3b067_J2_length_9d52b
theorem dJ2_getChar_3b067_0 : decode cJ2_getChar_3b067 0 = .ok (.getstatic 44, 3) := by decide +kernel
theorem dJ2_getChar_3b067_3 : decode cJ2_getChar_3b067 3 = .ok (.ifCond .ne 25, 3) := by decide +kernel
theorem dJ2_getChar_3b067_6 : decode cJ2_getChar_3b067 6 = .ok (.iload_n 1, 1) := by decide +kernel
theorem dJ2_getChar_3b067_7 : decode cJ2_getChar_3b067 7 = .ok (.ifCond .lt 11, 3) := by decide +kernel
theorem dJ2_getChar_3b067_10 : decode cJ2_getChar_3b067 10 = .ok (.iload_n 1, 1) := by decide +kernel
theorem dJ2_getChar_3b067_11 : decode cJ2_getChar_3b067 11 = .ok (.aload_n 0, 1) := by decide +kernel
theorem dJ2_getChar_3b067_12 : decode cJ2_getChar_3b067 12 = .ok (.invokestatic 48, 3) := by decide +kernel
theorem dJ2_getChar_3b067_15 : decode cJ2_getChar_3b067 15 = .ok (.if_icmp .lt 13, 3) := by decide +kernel
theorem dJ2_getChar_3b067_18 : decode cJ2_getChar_3b067 18 = .ok (.new 52, 3) := by decide +kernel
theorem dJ2_getChar_3b067_21 : decode cJ2_getChar_3b067 21 = .ok (.dup, 1) := by decide +kernel
theorem dJ2_getChar_3b067_22 : decode cJ2_getChar_3b067 22 = .ok (.ldc 54, 2) := by decide +kernel
theorem dJ2_getChar_3b067_24 : decode cJ2_getChar_3b067 24 = .ok (.invokespecial 56, 3) := by decide +kernel
theorem dJ2_getChar_3b067_27 : decode cJ2_getChar_3b067 27 = .ok (.athrow, 1) := by decide +kernel
theorem dJ2_getChar_3b067_28 : decode cJ2_getChar_3b067 28 = .ok (.iload_n 1, 1) := by decide +kernel
theorem dJ2_getChar_3b067_29 : decode cJ2_getChar_3b067 29 = .ok (.iconst 1, 1) := by decide +kernel
theorem dJ2_getChar_3b067_30 : decode cJ2_getChar_3b067 30 = .ok (.ishl, 1) := by decide +kernel
theorem dJ2_getChar_3b067_31 : decode cJ2_getChar_3b067 31 = .ok (.istore_n 1, 1) := by decide +kernel
theorem dJ2_getChar_3b067_32 : decode cJ2_getChar_3b067 32 = .ok (.aload_n 0, 1) := by decide +kernel
theorem dJ2_getChar_3b067_33 : decode cJ2_getChar_3b067 33 = .ok (.iload_n 1, 1) := by decide +kernel
theorem dJ2_getChar_3b067_34 : decode cJ2_getChar_3b067 34 = .ok (.iinc 1 1, 3) := by decide +kernel
theorem dJ2_getChar_3b067_37 : decode cJ2_getChar_3b067 37 = .ok (.baload, 1) := by decide +kernel
theorem dJ2_getChar_3b067_38 : decode cJ2_getChar_3b067 38 = .ok (.sipush 255, 3) := by decide +kernel
theorem dJ2_getChar_3b067_41 : decode cJ2_getChar_3b067 41 = .ok (.iand, 1) := by decide +kernel
theorem dJ2_getChar_3b067_42 : decode cJ2_getChar_3b067 42 = .ok (.getstatic 59, 3) := by decide +kernel
theorem dJ2_getChar_3b067_45 : decode cJ2_getChar_3b067 45 = .ok (.ishl, 1) := by decide +kernel
theorem dJ2_getChar_3b067_46 : decode cJ2_getChar_3b067 46 = .ok (.aload_n 0, 1) := by decide +kernel
theorem dJ2_getChar_3b067_47 : decode cJ2_getChar_3b067 47 = .ok (.iload_n 1, 1) := by decide +kernel
theorem dJ2_getChar_3b067_48 : decode cJ2_getChar_3b067 48 = .ok (.baload, 1) := by decide +kernel
theorem dJ2_getChar_3b067_49 : decode cJ2_getChar_3b067 49 = .ok (.sipush 255, 3) := by decide +kernel
theorem dJ2_getChar_3b067_52 : decode cJ2_getChar_3b067 52 = .ok (.iand, 1) := by decide +kernel
theorem dJ2_getChar_3b067_53 : decode cJ2_getChar_3b067 53 = .ok (.getstatic 63, 3) := by decide +kernel
theorem dJ2_getChar_3b067_56 : decode cJ2_getChar_3b067 56 = .ok (.ishl, 1) := by decide +kernel
theorem dJ2_getChar_3b067_57 : decode cJ2_getChar_3b067 57 = .ok (.ior, 1) := by decide +kernel
theorem dJ2_getChar_3b067_58 : decode cJ2_getChar_3b067 58 = .ok (.i2c, 1) := by decide +kernel
theorem dJ2_getChar_3b067_59 : decode cJ2_getChar_3b067 59 = .ok (.ireturn, 1) := by decide +kernel
theorem dJ2_length_9d52b_0 : decode cJ2_length_9d52b 0 = .ok (.aload_n 0, 1) := by decide +kernel
theorem dJ2_length_9d52b_1 : decode cJ2_length_9d52b 1 = .ok (.arraylength, 1) := by decide +kernel
theorem dJ2_length_9d52b_2 : decode cJ2_length_9d52b 2 = .ok (.iconst 1, 1) := by decide +kernel
theorem dJ2_length_9d52b_3 : decode cJ2_length_9d52b 3 = .ok (.ishr, 1) := by decide +kernel
theorem dJ2_length_9d52b_4 : decode cJ2_length_9d52b 4 = .ok (.ireturn, 1) := by decide +kernel
set_option maxRecDepth 20000 in
theorem ggJ2_charAt_3b067_J2_checkIndex_2214a : GoodIn wsJ2_charAt_3b067 wsJ2_checkIndex_2214a := goodIn_r _ [4, 5, 6, 3, 7, 8, 9, 10, 11, 12, 13, 14, 15, 16] (by decide +kernel) (by decide +kernel)
set_option maxRecDepth 20000 in
theorem gJ2_charAt_3b067_J2_checkIndex_2214a : GoodIn wsJ2_charAt_3b067 (va_wsS RJ2 67 yJ2_checkIndex_2214a wsJ2_checkIndex_2214a) := goodIn_app (goodIn_of _ (by decide +kernel)) ggJ2_charAt_3b067_J2_checkIndex_2214a
set_option maxRecDepth 20000 in
theorem ggJ2_charAt_3b067_J2_getChar_3b067 : GoodIn wsJ2_charAt_3b067 wsJ2_getChar_3b067 := goodIn_r _ [19, 20, 21, 22, 5, 6, 3, 7] (by decide +kernel) (by decide +kernel)
set_option maxRecDepth 20000 in
theorem gJ2_charAt_3b067_J2_getChar_3b067 : GoodIn wsJ2_charAt_3b067 (va_wsS RJ2 71 yJ2_getChar_3b067 wsJ2_getChar_3b067) := goodIn_app (goodIn_of _ (by decide +kernel)) ggJ2_charAt_3b067_J2_getChar_3b067
theorem dJ2_charAt_3b067_0 : decode cJ2_charAt_3b067 0 = .ok (.iload_n 1, 1) := by decide +kernel
theorem dJ2_charAt_3b067_1 : decode cJ2_charAt_3b067 1 = .ok (.aload_n 0, 1) := by decide +kernel
theorem dJ2_charAt_3b067_2 : decode cJ2_charAt_3b067 2 = .ok (.invokestatic 67, 3) := by decide +kernel
theorem dJ2_charAt_3b067_5 : decode cJ2_charAt_3b067 5 = .ok (.aload_n 0, 1) := by decide +kernel
theorem dJ2_charAt_3b067_6 : decode cJ2_charAt_3b067 6 = .ok (.iload_n 1, 1) := by decide +kernel
theorem dJ2_charAt_3b067_7 : decode cJ2_charAt_3b067 7 = .ok (.invokestatic 71, 3) := by decide +kernel
theorem dJ2_charAt_3b067_10 : decode cJ2_charAt_3b067 10 = .ok (.ireturn, 1) := by decide +kernel
set_option maxRecDepth 20000 in
theorem ggJ2_checkIndex_2214a_J2_length_9d52b : GoodIn wsJ2_checkIndex_2214a wsJ2_length_9d52b := goodIn_r _ [4] (by decide +kernel) (by decide +kernel)
set_option maxRecDepth 20000 in
theorem gJ2_checkIndex_2214a_J2_length_9d52b : GoodIn wsJ2_checkIndex_2214a (va_wsS RJ2 48 yJ2_length_9d52b wsJ2_length_9d52b) := goodIn_app (goodIn_of _ (by decide +kernel)) ggJ2_checkIndex_2214a_J2_length_9d52b
set_option maxRecDepth 20000 in
theorem ggJ2_checkIndex_2214a_J0_checkIndex_df160 : GoodIn wsJ2_checkIndex_2214a wsJ0_checkIndex_df160 := goodIn_r _ [8, 9, 10, 11, 12, 13] (by decide +kernel) (by decide +kernel)
set_option maxRecDepth 20000 in
theorem gJ2_checkIndex_2214a_J0_checkIndex_df160 : GoodIn wsJ2_checkIndex_2214a (va_wsS RJ2 414 yJ0_checkIndex_df160 wsJ0_checkIndex_df160) := goodIn_app (goodIn_of _ (by decide +kernel)) ggJ2_checkIndex_2214a_J0_checkIndex_df160
theorem dJ2_checkIndex_2214a_0 : decode cJ2_checkIndex_2214a 0 = .ok (.iload_n 0, 1) := by decide +kernel
theorem dJ2_checkIndex_2214a_1 : decode cJ2_checkIndex_2214a 1 = .ok (.aload_n 1, 1) := by decide +kernel
theorem dJ2_checkIndex_2214a_2 : decode cJ2_checkIndex_2214a 2 = .ok (.invokestatic 48, 3) := by decide +kernel
theorem dJ2_checkIndex_2214a_5 : decode cJ2_checkIndex_2214a 5 = .ok (.invokestatic 414, 3) := by decide +kernel
theorem dJ2_checkIndex_2214a_8 : decode cJ2_checkIndex_2214a 8 = .ok (.return_, 1) := by decide +kernel
theorem dJ3_checkIndex_8e157_0 : decode cJ3_checkIndex_8e157 0 = .ok (.iload_n 0, 1) := by decide +kernel
theorem dJ3_checkIndex_8e157_1 : decode cJ3_checkIndex_8e157 1 = .ok (.ifCond .lt 8, 3) := by decide +kernel
theorem dJ3_checkIndex_8e157_4 : decode cJ3_checkIndex_8e157 4 = .ok (.iload_n 0, 1) := by decide +kernel
theorem dJ3_checkIndex_8e157_5 : decode cJ3_checkIndex_8e157 5 = .ok (.iload_n 1, 1) := by decide +kernel
theorem dJ3_checkIndex_8e157_6 : decode cJ3_checkIndex_8e157 6 = .ok (.if_icmp .lt 10, 3) := by decide +kernel
theorem dJ3_checkIndex_8e157_9 : decode cJ3_checkIndex_8e157 9 = .ok (.aload_n 2, 1) := by decide +kernel
theorem dJ3_checkIndex_8e157_10 : decode cJ3_checkIndex_8e157 10 = .ok (.iload_n 0, 1) := by decide +kernel
theorem dJ3_checkIndex_8e157_11 : decode cJ3_checkIndex_8e157 11 = .ok (.iload_n 1, 1) := by decide +kernel
theorem dJ3_checkIndex_8e157_12 : decode cJ3_checkIndex_8e157 12 = .ok (.invokestatic 95, 3) := by decide +kernel
theorem dJ3_checkIndex_8e157_15 : decode cJ3_checkIndex_8e157 15 = .ok (.athrow, 1) := by decide +kernel
theorem dJ3_checkIndex_8e157_16 : decode cJ3_checkIndex_8e157 16 = .ok (.iload_n 0, 1) := by decide +kernel
theorem dJ3_checkIndex_8e157_17 : decode cJ3_checkIndex_8e157 17 = .ok (.ireturn, 1) := by decide +kernel
set_option maxRecDepth 20000 in
theorem ggL_law_X5_init : GoodIn wsL_law wsX5_init := goodIn_r _ [8, 9, 10, 11, 12, 13, 14, 15, 16, 17, 18, 19, 20, 21, 22, 23, 24, 25, 26, 27, 28, 29, 30, 31, 32, 33, 34, 35, 36, 37, 38, 39, 40, 41, 42, 43, 44, 45, 46, 47, 48, 49, 50, 51, 52, 53, 54, 55, 56, 57, 58, 59, 60, 61, 62, 63, 64, 65, 66, 67, 68, 69, 70, 71, 72, 73, 74, 75, 76, 77, 78, 79, 80, 81, 82, 83, 84, 85, 86, 87, 88, 89, 90, 91, 92, 93, 94, 95, 96, 97, 98, 99, 100, 101, 102, 103, 104, 105, 106, 107, 108, 109, 110, 111, 112, 113, 114, 115, 116, 117, 118, 119, 120, 121, 122, 123, 2, 124, 125, 126, 127, 128, 129, 130, 131, 132, 133, 134, 135, 136, 137, 138, 139, 140, 141, 142, 143, 144, 145, 146, 147, 148, 149, 150, 151, 152, 153, 154, 155, 156, 157, 158, 159, 160, 161, 162, 163, 164, 165, 166, 167, 168, 169, 170, 171, 172, 173, 174, 175, 176, 177, 178, 179, 180, 181, 182, 183, 184, 185, 186, 187, 188, 189, 190, 191, 192, 193, 194, 195, 196, 197, 198, 199, 200, 201, 806, 807, 772, 773, 774, 775, 776, 777, 778, 779, 780, 781, 808, 809, 810, 811, 812, 813, 814, 815, 816, 817, 818, 819, 820, 821, 822, 823, 824, 825, 826, 827, 828, 829, 830, 831] (by decide +kernel) (by decide +kernel)
set_option maxRecDepth 20000 in
theorem gL_law_X5_init : GoodIn wsL_law (wsX5_init) := ggL_law_X5_init
set_option maxRecDepth 20000 in
theorem ggL_law_X6_init : GoodIn wsL_law wsX6_init := goodIn_r _ [204, 205, 10, 11, 36, 206, 207, 208, 209, 210, 211, 212, 213, 214, 215, 216, 217, 218, 219, 220, 221, 222, 5, 223, 224, 225, 226, 227, 228, 229, 230, 231, 232, 233, 234, 235, 236, 237, 238, 239, 240, 241, 242, 243, 244, 245, 246, 782, 783, 784, 785, 786, 787, 788, 789, 790, 791, 792, 793, 794, 795, 796, 797, 798, 799, 800, 801, 802, 803, 804, 805] (by decide +kernel) (by decide +kernel)
set_option maxRecDepth 20000 in
theorem gL_law_X6_init : GoodIn wsL_law (wsX6_init) := ggL_law_X6_init
set_option maxRecDepth 20000 in
theorem ggL_law_X5_write : GoodIn wsL_law wsX5_write := goodIn_r _ [250, 15, 251, 252, 253, 2, 254, 116, 117, 118, 14, 119, 120, 42, 772, 773, 774, 775, 776, 777, 778, 779, 780, 781, 806, 807] (by decide +kernel) (by decide +kernel)
set_option maxRecDepth 20000 in
theorem gL_law_X5_write : GoodIn wsL_law (wsV RL 13 RX5 yX5_write wsX5_write) := goodIn_app (goodIn_of _ (by decide +kernel)) ggL_law_X5_write
set_option maxRecDepth 20000 in
theorem ggL_law_X6_write : GoodIn wsL_law wsX6_write := goodIn_r _ [258, 259, 212, 260, 261, 5, 262, 782, 783, 784, 785, 786, 787, 788, 789, 790, 791, 792, 793, 794, 795, 796, 797, 798, 799, 800, 801, 802, 803, 804, 805] (by decide +kernel) (by decide +kernel)
set_option maxRecDepth 20000 in
theorem gL_law_X6_write : GoodIn wsL_law (wsV RL 17 RX6 yX6_write wsX6_write) := goodIn_app (goodIn_of _ (by decide +kernel)) ggL_law_X6_write
set_option maxRecDepth 20000 in
theorem ggL_law_X5_wipe : GoodIn wsL_law wsX5_wipe := goodIn_r _ [266, 15, 251, 198, 199, 200, 14, 201, 120, 772, 773, 774, 775, 776, 777, 778, 779, 780, 781, 806, 807] (by decide +kernel) (by decide +kernel)
set_option maxRecDepth 20000 in
theorem gL_law_X5_wipe : GoodIn wsL_law (wsV RL 18 RX5 yX5_wipe wsX5_wipe) := goodIn_app (goodIn_of _ (by decide +kernel)) ggL_law_X5_wipe
set_option maxRecDepth 20000 in
theorem ggL_law_X6_wipe : GoodIn wsL_law wsX6_wipe := goodIn_r _ [270, 259, 782, 783, 784, 785, 786, 787, 788, 789, 790, 791, 792, 793, 794, 795, 796, 797, 798, 799, 800, 801, 802, 803, 804, 805] (by decide +kernel) (by decide +kernel)
set_option maxRecDepth 20000 in
theorem gL_law_X6_wipe : GoodIn wsL_law (wsV RL 22 RX6 yX6_wipe wsX6_wipe) := goodIn_app (goodIn_of _ (by decide +kernel)) ggL_law_X6_wipe
set_option maxRecDepth 20000 in
theorem ggL_law_X5_fault : GoodIn wsL_law wsX5_fault := goodIn_r _ [274, 20, 15, 129, 130, 131, 18, 132, 133, 134, 135, 136, 137, 138, 139, 140, 141, 142, 52, 143, 144, 145, 14, 146, 120, 42, 147, 148, 149, 150, 151, 152, 153, 154, 155, 156, 157, 158, 159, 160, 161, 162, 163, 164, 165, 166, 46, 47, 167, 168, 169, 170, 48, 49, 50, 51, 171, 172, 173, 174, 175, 176, 177, 178, 772, 773, 774, 775, 776, 777, 778, 779, 780, 781, 808, 809, 810, 811, 812, 813, 814, 815, 816, 817, 818, 819, 806, 807] (by decide +kernel) (by decide +kernel)
set_option maxRecDepth 20000 in
theorem gL_law_X5_fault : GoodIn wsL_law (wsV RL 23 RX5 yX5_fault wsX5_fault) := goodIn_app (goodIn_of _ (by decide +kernel)) ggL_law_X5_fault
set_option maxRecDepth 20000 in
theorem ggL_law_X6_fault : GoodIn wsL_law wsX6_fault := goodIn_r _ [278, 279, 259, 220, 221, 222, 5, 223, 224, 225, 218, 219, 280, 281, 282, 283, 284, 285, 286, 287, 212, 288, 289, 290, 291, 213, 292, 293, 294, 295, 296, 297, 298, 260, 261, 262, 299, 300, 301, 302, 226, 227, 228, 229, 214, 215, 303, 304, 305, 306, 230, 231, 232, 233, 216, 307, 308, 309, 310, 311, 312, 313, 314, 782, 783, 784, 785, 786, 787, 788, 789, 790, 791, 792, 793, 794, 795, 796, 797, 798, 799, 800, 801, 802, 803, 804, 805] (by decide +kernel) (by decide +kernel)
set_option maxRecDepth 20000 in
theorem gL_law_X6_fault : GoodIn wsL_law (wsV RL 26 RX6 yX6_fault wsX6_fault) := goodIn_app (goodIn_of _ (by decide +kernel)) ggL_law_X6_fault
set_option maxRecDepth 20000 in
theorem ggL_law_X5_lay : GoodIn wsL_law wsX5_lay := goodIn_r _ [124, 20, 15, 125, 19, 24, 126, 127, 29, 33, 128, 129, 130, 131, 18, 132, 133, 134, 135, 136, 137, 138, 139, 140, 141, 142, 52, 143, 144, 145, 14, 146, 120, 42, 147, 148, 149, 150, 151, 152, 153, 154, 155, 156, 157, 158, 159, 160, 161, 162, 163, 164, 165, 166, 46, 47, 167, 168, 169, 170, 48, 49, 50, 51, 171, 172, 173, 174, 175, 176, 177, 178, 179, 180, 181, 23, 182, 183, 184, 185, 186, 187, 188, 189, 190, 28, 191, 192, 193, 194, 195, 32, 196, 197, 772, 773, 774, 775, 776, 777, 778, 779, 780, 781, 808, 809, 810, 811, 812, 813, 814, 815, 816, 817, 818, 819, 806, 807, 820, 821, 822, 823, 824, 825, 826, 827, 828, 829, 830, 831] (by decide +kernel) (by decide +kernel)
set_option maxRecDepth 20000 in
theorem gL_law_X5_lay : GoodIn wsL_law (wsV RL 27 RX5 yX5_lay wsX5_lay) := goodIn_app (goodIn_of _ (by decide +kernel)) ggL_law_X5_lay
set_option maxRecDepth 20000 in
theorem ggL_law_X6_lay : GoodIn wsL_law wsX6_lay := goodIn_r _ [319, 224, 238, 320, 276, 277, 5, 278, 279, 259, 220, 221, 222, 223, 225, 218, 219, 280, 281, 282, 283, 284, 285, 286, 287, 212, 288, 289, 290, 291, 213, 292, 293, 294, 295, 296, 297, 298, 260, 261, 262, 299, 300, 301, 302, 226, 227, 228, 229, 214, 215, 303, 304, 305, 306, 230, 231, 232, 233, 216, 307, 308, 309, 310, 311, 312, 313, 314, 234, 235, 236, 237, 206, 239, 207, 240, 208, 241, 242, 243, 244, 245, 246, 782, 783, 784, 785, 786, 787, 788, 789, 790, 791, 792, 793, 794, 795, 796, 797, 798, 799, 800, 801, 802, 803, 804, 805] (by decide +kernel) (by decide +kernel)
set_option maxRecDepth 20000 in
theorem gL_law_X6_lay : GoodIn wsL_law (wsV RL 30 RX6 yX6_lay wsX6_lay) := goodIn_app (goodIn_of _ (by decide +kernel)) ggL_law_X6_lay
set_option maxRecDepth 20000 in
theorem ggL_law_X5_piece : GoodIn wsL_law wsX5_piece := goodIn_r _ [324, 19, 325, 24, 326, 327, 328, 329, 2, 330, 125, 252, 253, 254, 331, 332, 333, 23, 334, 183, 335, 336, 337, 338, 185, 184, 339, 340, 341, 18, 342, 134, 49, 46, 50, 51, 343, 344, 345, 346, 347, 348, 349, 350, 351, 352, 353, 354, 355, 356, 357, 358, 136, 772, 773, 774, 775, 776, 777, 778, 779, 780, 781, 808, 809, 810, 811, 812, 813, 814, 815, 816, 817, 818, 819, 820, 821, 822, 823, 824] (by decide +kernel) (by decide +kernel)
set_option maxRecDepth 20000 in
theorem gL_law_X5_piece : GoodIn wsL_law (wsV RL 31 RX5 yX5_piece wsX5_piece) := goodIn_app (goodIn_of _ (by decide +kernel)) ggL_law_X5_piece
set_option maxRecDepth 20000 in
theorem ggL_law_X6_piece : GoodIn wsL_law wsX6_piece := goodIn_r _ [362, 206, 208, 363, 364, 365, 5, 366, 238, 260, 261, 262, 367, 368, 369, 370, 217, 244, 245, 246, 371, 372, 373, 374, 239, 375, 376, 377, 378, 379, 380, 381, 382, 207, 383, 384, 385, 386, 387, 388, 389, 390, 391, 392, 393, 394, 395, 396, 397, 398, 240, 399, 400, 401, 782, 783, 784, 785, 786, 787, 788, 789, 790, 791, 792, 793, 794, 795, 796, 797, 798, 799, 800, 801, 802, 803, 804, 805] (by decide +kernel) (by decide +kernel)
set_option maxRecDepth 20000 in
theorem gL_law_X6_piece : GoodIn wsL_law (wsV RL 35 RX6 yX6_piece wsX6_piece) := goodIn_app (goodIn_of _ (by decide +kernel)) ggL_law_X6_piece
set_option maxRecDepth 20000 in
theorem ggL_law_X5_deed : GoodIn wsL_law wsX5_deed := goodIn_r _ [405, 19, 406, 407, 408, 409, 410, 411, 412, 2, 413, 414, 252, 253, 254, 415, 416, 417, 418, 24, 419, 420, 421, 422, 423, 125, 351, 352, 353, 354, 325, 335, 336, 337, 23, 338, 185, 184, 355, 356, 357, 18, 358, 136, 331, 332, 333, 334, 183, 339, 340, 341, 342, 134, 49, 46, 50, 51, 343, 344, 345, 346, 347, 348, 349, 350, 772, 773, 774, 775, 776, 777, 778, 779, 780, 781, 808, 809, 810, 811, 812, 813, 814, 815, 816, 817, 818, 819, 820, 821, 822, 823, 824] (by decide +kernel) (by decide +kernel)
set_option maxRecDepth 20000 in
theorem gL_law_X5_deed : GoodIn wsL_law (wsV RL 36 RX5 yX5_deed wsX5_deed) := goodIn_app (goodIn_of _ (by decide +kernel)) ggL_law_X5_deed
set_option maxRecDepth 20000 in
theorem ggL_law_X6_deed : GoodIn wsL_law wsX6_deed := goodIn_r _ [427, 207, 208, 428, 429, 430, 5, 431, 239, 260, 261, 262, 367, 368, 369, 370, 217, 244, 245, 246, 432, 433, 434, 435, 238, 395, 396, 397, 398, 240, 206, 399, 400, 401, 375, 376, 377, 378, 379, 380, 381, 382, 383, 384, 385, 386, 387, 388, 389, 390, 391, 392, 393, 394, 782, 783, 784, 785, 786, 787, 788, 789, 790, 791, 792, 793, 794, 795, 796, 797, 798, 799, 800, 801, 802, 803, 804, 805] (by decide +kernel) (by decide +kernel)
set_option maxRecDepth 20000 in
theorem gL_law_X6_deed : GoodIn wsL_law (wsV RL 39 RX6 yX6_deed wsX6_deed) := goodIn_app (goodIn_of _ (by decide +kernel)) ggL_law_X6_deed
set_option maxRecDepth 20000 in
theorem ggL_law_X5_speak : GoodIn wsL_law wsX5_speak := goodIn_r _ [439, 24, 29, 19, 327, 328, 329, 2, 330, 125, 252, 253, 254, 351, 352, 353, 354, 325, 335, 336, 337, 23, 338, 185, 184, 355, 356, 357, 18, 358, 136, 440, 441, 442, 443, 187, 186, 183, 444, 445, 446, 28, 447, 59, 448, 192, 449, 450, 451, 452, 331, 332, 333, 334, 339, 340, 341, 342, 134, 49, 46, 50, 51, 343, 344, 345, 346, 347, 348, 349, 350, 453, 454, 455, 456, 457, 458, 459, 460, 461, 462, 463, 772, 773, 774, 775, 776, 777, 778, 779, 780, 781, 808, 809, 810, 811, 812, 813, 814, 815, 816, 817, 818, 819, 820, 821, 822, 823, 824, 825, 826, 827] (by decide +kernel) (by decide +kernel)
set_option maxRecDepth 20000 in
theorem gL_law_X5_speak : GoodIn wsL_law (wsV RL 40 RX5 yX5_speak wsX5_speak) := goodIn_app (goodIn_of _ (by decide +kernel)) ggL_law_X5_speak
set_option maxRecDepth 20000 in
theorem ggL_law_X6_speak : GoodIn wsL_law wsX6_speak := goodIn_r _ [467, 208, 363, 364, 365, 5, 366, 238, 260, 261, 262, 367, 368, 369, 370, 217, 244, 245, 246, 395, 396, 397, 398, 240, 206, 399, 400, 401, 468, 469, 470, 471, 241, 209, 371, 372, 373, 374, 239, 375, 376, 377, 378, 379, 380, 381, 382, 207, 383, 384, 385, 386, 387, 388, 389, 390, 391, 392, 393, 394, 472, 473, 474, 782, 783, 784, 785, 786, 787, 788, 789, 790, 791, 792, 793, 794, 795, 796, 797, 798, 799, 800, 801, 802, 803, 804, 805] (by decide +kernel) (by decide +kernel)
set_option maxRecDepth 20000 in
theorem gL_law_X6_speak : GoodIn wsL_law (wsV RL 43 RX6 yX6_speak wsX6_speak) := goodIn_app (goodIn_of _ (by decide +kernel)) ggL_law_X6_speak
set_option maxRecDepth 20000 in
theorem ggL_law_X5_buy : GoodIn wsL_law wsX5_buy := goodIn_r _ [478, 24, 29, 19, 326, 479, 327, 328, 329, 2, 330, 125, 252, 253, 254, 480, 481, 482, 483, 335, 336, 337, 23, 338, 185, 184, 440, 441, 442, 443, 187, 186, 183, 444, 445, 446, 28, 447, 59, 448, 192, 449, 450, 451, 452, 484, 485, 486, 487, 772, 773, 774, 775, 776, 777, 778, 779, 780, 781, 808, 809, 810, 811, 812, 813, 814, 815, 816, 817, 818, 819, 820, 821, 822, 823, 824, 825, 826, 827] (by decide +kernel) (by decide +kernel)
set_option maxRecDepth 20000 in
theorem gL_law_X5_buy : GoodIn wsL_law (wsV RL 44 RX5 yX5_buy wsX5_buy) := goodIn_app (goodIn_of _ (by decide +kernel)) ggL_law_X5_buy
set_option maxRecDepth 20000 in
theorem ggL_law_X6_buy : GoodIn wsL_law wsX6_buy := goodIn_r _ [491, 208, 206, 363, 364, 365, 5, 366, 238, 260, 261, 262, 468, 469, 470, 471, 241, 209, 244, 245, 246, 782, 783, 784, 785, 786, 787, 788, 789, 790, 791, 792, 793, 794, 795, 796, 797, 798, 799, 800, 801, 802, 803, 804, 805] (by decide +kernel) (by decide +kernel)
set_option maxRecDepth 20000 in
theorem gL_law_X6_buy : GoodIn wsL_law (wsV RL 47 RX6 yX6_buy wsX6_buy) := goodIn_app (goodIn_of _ (by decide +kernel)) ggL_law_X6_buy
set_option maxRecDepth 20000 in
theorem ggL_law_X5_carry : GoodIn wsL_law wsX5_carry := goodIn_r _ [495, 24, 29, 327, 328, 329, 2, 330, 19, 125, 252, 253, 254, 331, 332, 333, 23, 334, 183, 335, 336, 337, 338, 185, 184, 440, 441, 442, 443, 187, 186, 444, 445, 446, 28, 447, 59, 448, 192, 449, 450, 451, 452, 496, 497, 498, 499, 772, 773, 774, 775, 776, 777, 778, 779, 780, 781, 808, 809, 810, 811, 812, 813, 814, 815, 816, 817, 818, 819, 820, 821, 822, 823, 824, 825, 826, 827] (by decide +kernel) (by decide +kernel)
set_option maxRecDepth 20000 in
theorem gL_law_X5_carry : GoodIn wsL_law (wsV RL 48 RX5 yX5_carry wsX5_carry) := goodIn_app (goodIn_of _ (by decide +kernel)) ggL_law_X5_carry
set_option maxRecDepth 20000 in
theorem ggL_law_X6_carry : GoodIn wsL_law wsX6_carry := goodIn_r _ [503, 208, 363, 364, 365, 5, 366, 238, 260, 261, 262, 468, 469, 470, 471, 241, 209, 244, 245, 246, 782, 783, 784, 785, 786, 787, 788, 789, 790, 791, 792, 793, 794, 795, 796, 797, 798, 799, 800, 801, 802, 803, 804, 805] (by decide +kernel) (by decide +kernel)
set_option maxRecDepth 20000 in
theorem gL_law_X6_carry : GoodIn wsL_law (wsV RL 51 RX6 yX6_carry wsX6_carry) := goodIn_app (goodIn_of _ (by decide +kernel)) ggL_law_X6_carry
set_option maxRecDepth 20000 in
theorem ggL_law_X5_undo : GoodIn wsL_law wsX5_undo := goodIn_r _ [507, 29, 508, 24, 509, 510, 511, 28, 512, 448, 192, 513, 514, 451, 515, 59, 516, 517, 518, 23, 519, 520, 183, 521, 184, 185, 186, 187, 772, 773, 774, 775, 776, 777, 778, 779, 780, 781, 825, 826, 827, 820, 821, 822, 823, 824] (by decide +kernel) (by decide +kernel)
set_option maxRecDepth 20000 in
theorem gL_law_X5_undo : GoodIn wsL_law (wsV RL 52 RX5 yX5_undo wsX5_undo) := goodIn_app (goodIn_of _ (by decide +kernel)) ggL_law_X5_undo
set_option maxRecDepth 20000 in
theorem ggL_law_X6_undo : GoodIn wsL_law wsX6_undo := goodIn_r _ [525, 241, 208, 209, 244, 245, 5, 246, 782, 783, 784, 785, 786, 787, 788, 789, 790, 791, 792, 793, 794, 795, 796, 797, 798, 799, 800, 801, 802, 803, 804, 805] (by decide +kernel) (by decide +kernel)
set_option maxRecDepth 20000 in
theorem gL_law_X6_undo : GoodIn wsL_law (wsV RL 55 RX6 yX6_undo wsX6_undo) := goodIn_app (goodIn_of _ (by decide +kernel)) ggL_law_X6_undo
set_option maxRecDepth 20000 in
theorem ggL_law_X5_hush : GoodIn wsL_law wsX5_hush := goodIn_r _ [529, 410, 411, 412, 2, 413, 19, 414, 252, 253, 254, 415, 416, 417, 418, 24, 419, 530, 531, 532, 533, 420, 421, 422, 423, 125, 351, 352, 353, 354, 325, 335, 336, 337, 23, 338, 185, 184, 355, 356, 357, 18, 358, 136, 331, 332, 333, 334, 183, 339, 340, 341, 342, 134, 49, 46, 50, 51, 343, 344, 345, 346, 347, 348, 349, 350, 534, 535, 536, 537, 133, 47, 772, 773, 774, 775, 776, 777, 778, 779, 780, 781, 808, 809, 810, 811, 812, 813, 814, 815, 816, 817, 818, 819, 820, 821, 822, 823, 824] (by decide +kernel) (by decide +kernel)
set_option maxRecDepth 20000 in
theorem gL_law_X5_hush : GoodIn wsL_law (wsV RL 56 RX5 yX5_hush wsX5_hush) := goodIn_app (goodIn_of _ (by decide +kernel)) ggL_law_X5_hush
set_option maxRecDepth 20000 in
theorem ggL_law_X6_hush : GoodIn wsL_law wsX6_hush := goodIn_r _ [541, 208, 428, 429, 430, 5, 431, 239, 260, 261, 262, 367, 368, 369, 370, 217, 244, 245, 246, 399, 400, 401, 542, 543, 544, 545, 238, 546, 547, 548, 549, 395, 396, 397, 398, 240, 206, 550, 551, 552, 553, 371, 372, 373, 374, 375, 376, 377, 378, 379, 380, 381, 382, 207, 383, 384, 385, 386, 387, 388, 389, 390, 391, 392, 393, 394, 554, 555, 556, 557, 782, 783, 784, 785, 786, 787, 788, 789, 790, 791, 792, 793, 794, 795, 796, 797, 798, 799, 800, 801, 802, 803, 804, 805] (by decide +kernel) (by decide +kernel)
set_option maxRecDepth 20000 in
theorem gL_law_X6_hush : GoodIn wsL_law (wsV RL 59 RX6 yX6_hush wsX6_hush) := goodIn_app (goodIn_of _ (by decide +kernel)) ggL_law_X6_hush
set_option maxRecDepth 20000 in
theorem ggL_law_X5_hushAll : GoodIn wsL_law wsX5_hushAll := goodIn_r _ [561, 19, 24, 419, 252, 253, 2, 254, 562, 563, 564, 18, 565, 134, 51, 530, 531, 532, 533, 420, 421, 422, 423, 125, 351, 352, 353, 354, 325, 335, 336, 337, 23, 338, 185, 184, 355, 356, 357, 358, 136, 331, 332, 333, 334, 183, 339, 340, 341, 342, 49, 46, 50, 343, 344, 345, 346, 347, 348, 349, 350, 534, 535, 536, 537, 133, 47, 772, 773, 774, 775, 776, 777, 778, 779, 780, 781, 820, 821, 822, 823, 824, 808, 809, 810, 811, 812, 813, 814, 815, 816, 817, 818, 819] (by decide +kernel) (by decide +kernel)
set_option maxRecDepth 20000 in
theorem gL_law_X5_hushAll : GoodIn wsL_law (wsV RL 60 RX5 yX5_hushAll wsX5_hushAll) := goodIn_app (goodIn_of _ (by decide +kernel)) ggL_law_X5_hushAll
set_option maxRecDepth 20000 in
theorem ggL_law_X6_hushAll : GoodIn wsL_law wsX6_hushAll := goodIn_r _ [569, 239, 208, 260, 261, 5, 262, 367, 368, 369, 370, 217, 244, 245, 246, 391, 392, 393, 394, 207, 399, 400, 401, 542, 543, 544, 545, 238, 546, 547, 548, 549, 395, 396, 397, 398, 240, 206, 550, 551, 552, 553, 371, 372, 373, 374, 375, 376, 377, 378, 379, 380, 381, 382, 383, 384, 385, 386, 387, 388, 389, 390, 554, 555, 556, 557, 782, 783, 784, 785, 786, 787, 788, 789, 790, 791, 792, 793, 794, 795, 796, 797, 798, 799, 800, 801, 802, 803, 804, 805] (by decide +kernel) (by decide +kernel)
set_option maxRecDepth 20000 in
theorem gL_law_X6_hushAll : GoodIn wsL_law (wsV RL 63 RX6 yX6_hushAll wsX6_hushAll) := goodIn_app (goodIn_of _ (by decide +kernel)) ggL_law_X6_hushAll
set_option maxRecDepth 20000 in
theorem ggL_law_X5_hushOne : GoodIn wsL_law wsX5_hushOne := goodIn_r _ [573, 19, 24, 419, 574, 575, 2, 576, 252, 253, 254, 577, 578, 579, 18, 580, 134, 48, 530, 531, 532, 533, 420, 421, 422, 423, 125, 351, 352, 353, 354, 325, 335, 336, 337, 23, 338, 185, 184, 355, 356, 357, 358, 136, 331, 332, 333, 334, 183, 339, 340, 341, 342, 49, 46, 50, 51, 343, 344, 345, 346, 347, 348, 349, 350, 534, 535, 536, 537, 133, 47, 772, 773, 774, 775, 776, 777, 778, 779, 780, 781, 820, 821, 822, 823, 824, 808, 809, 810, 811, 812, 813, 814, 815, 816, 817, 818, 819] (by decide +kernel) (by decide +kernel)
set_option maxRecDepth 20000 in
theorem gL_law_X5_hushOne : GoodIn wsL_law (wsV RL 64 RX5 yX5_hushOne wsX5_hushOne) := goodIn_app (goodIn_of _ (by decide +kernel)) ggL_law_X5_hushOne
set_option maxRecDepth 20000 in
theorem ggL_law_X6_hushOne : GoodIn wsL_law wsX6_hushOne := goodIn_r _ [584, 239, 207, 208, 260, 261, 5, 262, 367, 368, 369, 370, 217, 244, 245, 246, 399, 400, 401, 542, 543, 544, 545, 238, 546, 547, 548, 549, 395, 396, 397, 398, 240, 206, 550, 551, 552, 553, 371, 372, 373, 374, 375, 376, 377, 378, 379, 380, 381, 382, 383, 384, 385, 386, 387, 388, 389, 390, 391, 392, 393, 394, 554, 555, 556, 557, 782, 783, 784, 785, 786, 787, 788, 789, 790, 791, 792, 793, 794, 795, 796, 797, 798, 799, 800, 801, 802, 803, 804, 805] (by decide +kernel) (by decide +kernel)
set_option maxRecDepth 20000 in
theorem gL_law_X6_hushOne : GoodIn wsL_law (wsV RL 67 RX6 yX6_hushOne wsX6_hushOne) := goodIn_app (goodIn_of _ (by decide +kernel)) ggL_law_X6_hushOne
set_option maxRecDepth 20000 in
theorem ggL_law_X5_save : GoodIn wsL_law wsX5_save := goodIn_r _ [588, 19, 125, 24, 479, 252, 253, 2, 254, 589, 590, 591, 592, 37, 331, 332, 333, 23, 334, 183, 339, 340, 341, 18, 342, 134, 49, 46, 50, 51, 343, 344, 345, 346, 347, 348, 349, 350, 593, 594, 595, 596, 351, 352, 353, 354, 325, 335, 336, 337, 338, 185, 184, 355, 356, 357, 358, 136, 597, 598, 599, 600, 419, 601, 602, 603, 604, 605, 606, 607, 608, 534, 535, 536, 537, 133, 47, 772, 773, 774, 775, 776, 777, 778, 779, 780, 781, 808, 809, 810, 811, 812, 813, 814, 815, 816, 817, 818, 819, 820, 821, 822, 823, 824] (by decide +kernel) (by decide +kernel)
set_option maxRecDepth 20000 in
theorem gL_law_X5_save : GoodIn wsL_law (wsV RL 68 RX5 yX5_save wsX5_save) := goodIn_app (goodIn_of _ (by decide +kernel)) ggL_law_X5_save
set_option maxRecDepth 20000 in
theorem ggL_law_X6_save : GoodIn wsL_law wsX6_save := goodIn_r _ [612, 238, 208, 260, 261, 5, 262, 367, 368, 369, 370, 217, 244, 245, 246, 546, 547, 548, 549, 395, 396, 397, 398, 240, 206, 399, 400, 401, 554, 555, 556, 557, 550, 551, 552, 553, 371, 372, 373, 374, 239, 375, 376, 377, 378, 379, 380, 381, 382, 207, 383, 384, 385, 386, 387, 388, 389, 390, 391, 392, 393, 394, 613, 614, 615, 616, 782, 783, 784, 785, 786, 787, 788, 789, 790, 791, 792, 793, 794, 795, 796, 797, 798, 799, 800, 801, 802, 803, 804, 805] (by decide +kernel) (by decide +kernel)
set_option maxRecDepth 20000 in
theorem gL_law_X6_save : GoodIn wsL_law (wsV RL 71 RX6 yX6_save wsX6_save) := goodIn_app (goodIn_of _ (by decide +kernel)) ggL_law_X6_save
set_option maxRecDepth 20000 in
theorem ggL_law_X5_together : GoodIn wsL_law wsX5_together := goodIn_r _ [620, 19, 24, 327, 328, 329, 2, 330, 125, 252, 253, 254, 331, 332, 333, 23, 334, 183, 339, 340, 341, 18, 342, 134, 49, 46, 50, 51, 343, 344, 345, 346, 347, 348, 349, 350, 772, 773, 774, 775, 776, 777, 778, 779, 780, 781, 808, 809, 810, 811, 812, 813, 814, 815, 816, 817, 818, 819, 820, 821, 822, 823, 824] (by decide +kernel) (by decide +kernel)
set_option maxRecDepth 20000 in
theorem gL_law_X5_together : GoodIn wsL_law (wsV RL 72 RX5 yX5_together wsX5_together) := goodIn_app (goodIn_of _ (by decide +kernel)) ggL_law_X5_together
set_option maxRecDepth 20000 in
theorem ggL_law_X6_together : GoodIn wsL_law wsX6_together := goodIn_r _ [624, 363, 364, 365, 5, 366, 238, 260, 261, 262, 367, 368, 369, 370, 217, 208, 244, 245, 246, 371, 372, 373, 374, 239, 375, 376, 377, 378, 206, 379, 380, 381, 382, 207, 383, 384, 385, 386, 387, 388, 389, 390, 391, 392, 393, 394, 782, 783, 784, 785, 786, 787, 788, 789, 790, 791, 792, 793, 794, 795, 796, 797, 798, 799, 800, 801, 802, 803, 804, 805] (by decide +kernel) (by decide +kernel)
set_option maxRecDepth 20000 in
theorem gL_law_X6_together : GoodIn wsL_law (wsV RL 75 RX6 yX6_together wsX6_together) := goodIn_app (goodIn_of _ (by decide +kernel)) ggL_law_X6_together
set_option maxRecDepth 20000 in
theorem ggL_law_X5_cover : GoodIn wsL_law wsX5_cover := goodIn_r _ [628, 19, 125, 252, 253, 2, 254, 589, 590, 591, 592, 37, 24, 331, 332, 333, 23, 334, 183, 339, 340, 341, 18, 342, 134, 49, 46, 50, 51, 343, 344, 345, 346, 347, 348, 349, 350, 593, 594, 595, 596, 351, 352, 353, 354, 325, 335, 336, 337, 338, 185, 184, 355, 356, 357, 358, 136, 601, 602, 603, 604, 629, 458, 459, 460, 461, 462, 463, 772, 773, 774, 775, 776, 777, 778, 779, 780, 781, 808, 809, 810, 811, 812, 813, 814, 815, 816, 817, 818, 819, 820, 821, 822, 823, 824] (by decide +kernel) (by decide +kernel)
set_option maxRecDepth 20000 in
theorem gL_law_X5_cover : GoodIn wsL_law (wsV RL 76 RX5 yX5_cover wsX5_cover) := goodIn_app (goodIn_of _ (by decide +kernel)) ggL_law_X5_cover
set_option maxRecDepth 20000 in
theorem ggL_law_X6_cover : GoodIn wsL_law wsX6_cover := goodIn_r _ [633, 238, 260, 261, 5, 262, 367, 368, 369, 370, 217, 208, 244, 245, 246, 546, 547, 548, 549, 395, 396, 397, 398, 240, 206, 399, 400, 401, 550, 551, 552, 553, 371, 372, 373, 374, 239, 375, 376, 377, 378, 379, 380, 381, 382, 207, 383, 384, 385, 386, 387, 388, 389, 390, 391, 392, 393, 394, 472, 473, 474, 782, 783, 784, 785, 786, 787, 788, 789, 790, 791, 792, 793, 794, 795, 796, 797, 798, 799, 800, 801, 802, 803, 804, 805] (by decide +kernel) (by decide +kernel)
set_option maxRecDepth 20000 in
theorem gL_law_X6_cover : GoodIn wsL_law (wsV RL 79 RX6 yX6_cover wsX6_cover) := goodIn_app (goodIn_of _ (by decide +kernel)) ggL_law_X6_cover
set_option maxRecDepth 20000 in
theorem ggL_law_X5_safe : GoodIn wsL_law wsX5_safe := goodIn_r _ [637, 19, 125, 24, 325, 414, 252, 253, 2, 254, 331, 332, 333, 23, 334, 183, 351, 352, 353, 354, 335, 336, 337, 338, 185, 184, 355, 356, 357, 18, 358, 136, 638, 344, 345, 346, 347, 348, 349, 350, 134, 50, 49, 772, 773, 774, 775, 776, 777, 778, 779, 780, 781, 808, 809, 810, 811, 812, 813, 814, 815, 816, 817, 818, 819, 820, 821, 822, 823, 824] (by decide +kernel) (by decide +kernel)
set_option maxRecDepth 20000 in
theorem gL_law_X5_safe : GoodIn wsL_law (wsV RL 80 RX5 yX5_safe wsX5_safe) := goodIn_app (goodIn_of _ (by decide +kernel)) ggL_law_X5_safe
set_option maxRecDepth 20000 in
theorem ggL_law_X6_safe : GoodIn wsL_law wsX6_safe := goodIn_r _ [642, 207, 239, 238, 260, 261, 5, 262, 367, 368, 369, 370, 217, 208, 244, 245, 246, 395, 396, 397, 398, 240, 206, 399, 400, 401, 375, 376, 377, 378, 379, 380, 381, 382, 383, 384, 385, 386, 387, 388, 389, 390, 391, 392, 393, 394, 782, 783, 784, 785, 786, 787, 788, 789, 790, 791, 792, 793, 794, 795, 796, 797, 798, 799, 800, 801, 802, 803, 804, 805] (by decide +kernel) (by decide +kernel)
set_option maxRecDepth 20000 in
theorem gL_law_X6_safe : GoodIn wsL_law (wsV RL 83 RX6 yX6_safe wsX6_safe) := goodIn_app (goodIn_of _ (by decide +kernel)) ggL_law_X6_safe
set_option maxRecDepth 20000 in
theorem ggL_law_X5_dealer : GoodIn wsL_law wsX5_dealer := goodIn_r _ [646, 24, 419, 19, 125, 37, 589, 590, 591, 2, 592, 331, 332, 333, 23, 334, 183, 339, 340, 341, 18, 342, 134, 49, 46, 50, 51, 343, 344, 345, 346, 347, 348, 349, 350, 593, 594, 595, 596, 351, 352, 353, 354, 325, 335, 336, 337, 338, 185, 184, 355, 356, 357, 358, 136, 647, 648, 649, 650, 605, 606, 607, 608, 772, 773, 774, 775, 776, 777, 778, 779, 780, 781, 820, 821, 822, 823, 824, 808, 809, 810, 811, 812, 813, 814, 815, 816, 817, 818, 819] (by decide +kernel) (by decide +kernel)
set_option maxRecDepth 20000 in
theorem gL_law_X5_dealer : GoodIn wsL_law (wsV RL 84 RX5 yX5_dealer wsX5_dealer) := goodIn_app (goodIn_of _ (by decide +kernel)) ggL_law_X5_dealer
set_option maxRecDepth 20000 in
theorem ggL_law_X6_dealer : GoodIn wsL_law wsX6_dealer := goodIn_r _ [654, 238, 217, 367, 368, 369, 5, 370, 208, 244, 245, 246, 395, 396, 397, 398, 240, 206, 399, 400, 401, 371, 372, 373, 374, 239, 375, 376, 377, 378, 379, 380, 381, 382, 207, 383, 384, 385, 386, 387, 388, 389, 390, 391, 392, 393, 394, 613, 614, 615, 616, 782, 783, 784, 785, 786, 787, 788, 789, 790, 791, 792, 793, 794, 795, 796, 797, 798, 799, 800, 801, 802, 803, 804, 805] (by decide +kernel) (by decide +kernel)
set_option maxRecDepth 20000 in
theorem gL_law_X6_dealer : GoodIn wsL_law (wsV RL 87 RX6 yX6_dealer wsX6_dealer) := goodIn_app (goodIn_of _ (by decide +kernel)) ggL_law_X6_dealer
set_option maxRecDepth 20000 in
theorem ggL_law_X5_ruin : GoodIn wsL_law wsX5_ruin := goodIn_r _ [658, 19, 24, 419, 574, 575, 2, 576, 252, 253, 254, 577, 578, 579, 18, 580, 134, 48, 605, 606, 607, 608, 51, 772, 773, 774, 775, 776, 777, 778, 779, 780, 781, 820, 821, 822, 823, 824, 808, 809, 810, 811, 812, 813, 814, 815, 816, 817, 818, 819] (by decide +kernel) (by decide +kernel)
set_option maxRecDepth 20000 in
theorem gL_law_X5_ruin : GoodIn wsL_law (wsV RL 88 RX5 yX5_ruin wsX5_ruin) := goodIn_app (goodIn_of _ (by decide +kernel)) ggL_law_X5_ruin
set_option maxRecDepth 20000 in
theorem ggL_law_X6_ruin : GoodIn wsL_law wsX6_ruin := goodIn_r _ [662, 239, 207, 208, 260, 261, 5, 262, 399, 400, 401, 391, 392, 393, 394, 782, 783, 784, 785, 786, 787, 788, 789, 790, 791, 792, 793, 794, 795, 796, 797, 798, 799, 800, 801, 802, 803, 804, 805] (by decide +kernel) (by decide +kernel)
set_option maxRecDepth 20000 in
theorem gL_law_X6_ruin : GoodIn wsL_law (wsV RL 91 RX6 yX6_ruin wsX6_ruin) := goodIn_app (goodIn_of _ (by decide +kernel)) ggL_law_X6_ruin
set_option maxRecDepth 20000 in
theorem ggL_law_X5_seen : GoodIn wsL_law wsX5_seen := goodIn_r _ [666, 33, 667, 327, 328, 329, 2, 330, 19, 125, 252, 253, 254, 410, 411, 412, 413, 414, 668, 669, 670, 32, 671, 197, 63, 64, 66, 772, 773, 774, 775, 776, 777, 778, 779, 780, 781, 828, 829, 830, 831, 808, 809, 810, 811, 812, 813, 814, 815, 816, 817, 818, 819] (by decide +kernel) (by decide +kernel)
set_option maxRecDepth 20000 in
theorem gL_law_X5_seen : GoodIn wsL_law (wsV RL 92 RX5 yX5_seen wsX5_seen) := goodIn_app (goodIn_of _ (by decide +kernel)) ggL_law_X5_seen
set_option maxRecDepth 20000 in
theorem ggL_law_X6_seen : GoodIn wsL_law wsX6_seen := goodIn_r _ [675, 243, 211, 363, 364, 365, 5, 366, 238, 260, 261, 262, 428, 429, 430, 431, 239, 782, 783, 784, 785, 786, 787, 788, 789, 790, 791, 792, 793, 794, 795, 796, 797, 798, 799, 800, 801, 802, 803, 804, 805] (by decide +kernel) (by decide +kernel)
set_option maxRecDepth 20000 in
theorem gL_law_X6_seen : GoodIn wsL_law (wsV RL 96 RX6 yX6_seen wsX6_seen) := goodIn_app (goodIn_of _ (by decide +kernel)) ggL_law_X6_seen
set_option maxRecDepth 20000 in
theorem ggL_law_X5_forget : GoodIn wsL_law wsX5_forget := goodIn_r _ [679, 33, 667, 193, 194, 195, 32, 196, 197, 772, 773, 774, 775, 776, 777, 778, 779, 780, 781, 828, 829, 830, 831] (by decide +kernel) (by decide +kernel)
set_option maxRecDepth 20000 in
theorem gL_law_X5_forget : GoodIn wsL_law (wsV RL 97 RX5 yX5_forget wsX5_forget) := goodIn_app (goodIn_of _ (by decide +kernel)) ggL_law_X5_forget
set_option maxRecDepth 20000 in
theorem ggL_law_X6_forget : GoodIn wsL_law wsX6_forget := goodIn_r _ [683, 243, 782, 783, 784, 785, 786, 787, 788, 789, 790, 791, 792, 793, 794, 795, 796, 797, 798, 799, 800, 801, 802, 803, 804, 805] (by decide +kernel) (by decide +kernel)
set_option maxRecDepth 20000 in
theorem gL_law_X6_forget : GoodIn wsL_law (wsV RL 100 RX6 yX6_forget wsX6_forget) := goodIn_app (goodIn_of _ (by decide +kernel)) ggL_law_X6_forget
set_option maxRecDepth 20000 in
theorem ggL_law_X5_may : GoodIn wsL_law wsX5_may := goodIn_r _ [687, 410, 411, 412, 2, 413, 19, 414, 252, 253, 254, 688, 689, 690, 691, 408, 692, 693, 694, 695, 33, 667, 696, 697, 24, 325, 409, 698, 327, 328, 329, 330, 125, 331, 332, 333, 23, 334, 183, 638, 344, 345, 18, 346, 347, 348, 349, 350, 134, 50, 49, 699, 700, 701, 702, 407, 772, 773, 774, 775, 776, 777, 778, 779, 780, 781, 808, 809, 810, 811, 812, 813, 814, 815, 816, 817, 818, 819, 828, 829, 830, 831, 820, 821, 822, 823, 824] (by decide +kernel) (by decide +kernel)
set_option maxRecDepth 20000 in
theorem gL_law_X5_may : GoodIn wsL_law (wsV RL 101 RX5 yX5_may wsX5_may) := goodIn_app (goodIn_of _ (by decide +kernel)) ggL_law_X5_may
set_option maxRecDepth 20000 in
theorem ggL_law_X6_may : GoodIn wsL_law wsX6_may := goodIn_r _ [706, 207, 428, 429, 430, 5, 431, 239, 260, 261, 262, 367, 368, 369, 370, 217, 208, 244, 245, 246, 707, 708, 709, 710, 243, 211, 375, 376, 377, 378, 206, 379, 380, 381, 382, 383, 384, 385, 386, 387, 388, 389, 390, 391, 392, 393, 394, 782, 783, 784, 785, 786, 787, 788, 789, 790, 791, 792, 793, 794, 795, 796, 797, 798, 799, 800, 801, 802, 803, 804, 805] (by decide +kernel) (by decide +kernel)
set_option maxRecDepth 20000 in
theorem gL_law_X6_may : GoodIn wsL_law (wsV RL 104 RX6 yX6_may wsX6_may) := goodIn_app (goodIn_of _ (by decide +kernel)) ggL_law_X6_may
set_option maxRecDepth 20000 in
theorem ggL_law_X5_likely : GoodIn wsL_law wsX5_likely := goodIn_r _ [714, 410, 411, 412, 2, 413, 19, 414, 252, 253, 254, 415, 416, 417, 418, 24, 419, 420, 421, 422, 423, 125, 351, 352, 353, 354, 325, 335, 336, 337, 23, 338, 185, 184, 355, 356, 357, 18, 358, 136, 331, 332, 333, 334, 183, 339, 340, 341, 342, 134, 49, 46, 50, 51, 343, 344, 345, 346, 347, 348, 349, 350, 629, 458, 459, 460, 461, 462, 463, 772, 773, 774, 775, 776, 777, 778, 779, 780, 781, 808, 809, 810, 811, 812, 813, 814, 815, 816, 817, 818, 819, 820, 821, 822, 823, 824] (by decide +kernel) (by decide +kernel)
set_option maxRecDepth 20000 in
theorem gL_law_X5_likely : GoodIn wsL_law (wsV RL 105 RX5 yX5_likely wsX5_likely) := goodIn_app (goodIn_of _ (by decide +kernel)) ggL_law_X5_likely
set_option maxRecDepth 20000 in
theorem ggL_law_X6_likely : GoodIn wsL_law wsX6_likely := goodIn_r _ [718, 208, 428, 429, 430, 5, 431, 239, 260, 261, 262, 367, 368, 369, 370, 217, 244, 245, 246, 399, 400, 401, 432, 433, 434, 435, 238, 395, 396, 397, 398, 240, 206, 375, 376, 377, 378, 379, 380, 381, 382, 207, 383, 384, 385, 386, 387, 388, 389, 390, 391, 392, 393, 394, 472, 473, 474, 782, 783, 784, 785, 786, 787, 788, 789, 790, 791, 792, 793, 794, 795, 796, 797, 798, 799, 800, 801, 802, 803, 804, 805] (by decide +kernel) (by decide +kernel)
set_option maxRecDepth 20000 in
theorem gL_law_X6_likely : GoodIn wsL_law (wsV RL 108 RX6 yX6_likely wsX6_likely) := goodIn_app (goodIn_of _ (by decide +kernel)) ggL_law_X6_likely
set_option maxRecDepth 20000 in
theorem ggL_law_X5_sale : GoodIn wsL_law wsX5_sale := goodIn_r _ [722, 25, 24, 419, 479, 252, 253, 2, 254, 440, 441, 442, 23, 443, 187, 186, 185, 184, 183, 516, 517, 518, 519, 520, 521, 723, 724, 725, 726, 727, 728, 729, 730, 731, 732, 733, 19, 125, 326, 351, 352, 353, 354, 325, 335, 336, 337, 338, 355, 356, 357, 18, 358, 136, 331, 332, 333, 334, 339, 340, 341, 342, 134, 49, 46, 50, 51, 343, 344, 345, 346, 347, 348, 349, 350, 453, 454, 455, 456, 457, 458, 459, 460, 461, 462, 463, 480, 481, 482, 483, 484, 485, 486, 487, 496, 497, 498, 499, 772, 773, 774, 775, 776, 777, 778, 779, 780, 781, 820, 821, 822, 823, 824, 808, 809, 810, 811, 812, 813, 814, 815, 816, 817, 818, 819] (by decide +kernel) (by decide +kernel)
set_option maxRecDepth 20000 in
theorem gL_law_X5_sale : GoodIn wsL_law (wsV RL 109 RX5 yX5_sale wsX5_sale) := goodIn_app (goodIn_of _ (by decide +kernel)) ggL_law_X5_sale
set_option maxRecDepth 20000 in
theorem ggL_law_X6_sale : GoodIn wsL_law wsX6_sale := goodIn_r _ [737, 738, 739, 740, 741, 238, 217, 206, 260, 261, 5, 262, 367, 368, 369, 370, 208, 244, 245, 246, 395, 396, 397, 398, 240, 399, 400, 401, 371, 372, 373, 374, 239, 375, 376, 377, 378, 379, 380, 381, 382, 207, 383, 384, 385, 386, 387, 388, 389, 390, 391, 392, 393, 394, 782, 783, 784, 785, 786, 787, 788, 789, 790, 791, 792, 793, 794, 795, 796, 797, 798, 799, 800, 801, 802, 803, 804, 805] (by decide +kernel) (by decide +kernel)
set_option maxRecDepth 20000 in
theorem gL_law_X6_sale : GoodIn wsL_law (wsV RL 112 RX6 yX6_sale wsX6_sale) := goodIn_app (goodIn_of _ (by decide +kernel)) ggL_law_X6_sale
set_option maxRecDepth 20000 in
theorem ggL_law_X5_keep : GoodIn wsL_law wsX5_keep := goodIn_r _ [745, 128, 35, 24, 440, 441, 442, 23, 443, 187, 186, 185, 184, 183, 772, 773, 774, 775, 776, 777, 778, 779, 780, 781, 820, 821, 822, 823, 824] (by decide +kernel) (by decide +kernel)
set_option maxRecDepth 20000 in
theorem gL_law_X5_keep : GoodIn wsL_law (wsV RL 113 RX5 yX5_keep wsX5_keep) := goodIn_app (goodIn_of _ (by decide +kernel)) ggL_law_X5_keep
set_option maxRecDepth 20000 in
theorem ggL_law_X6_keep : GoodIn wsL_law wsX6_keep := goodIn_r _ [749, 242, 210, 208, 244, 245, 5, 246, 782, 783, 784, 785, 786, 787, 788, 789, 790, 791, 792, 793, 794, 795, 796, 797, 798, 799, 800, 801, 802, 803, 804, 805] (by decide +kernel) (by decide +kernel)
set_option maxRecDepth 20000 in
theorem gL_law_X6_keep : GoodIn wsL_law (wsV RL 116 RX6 yX6_keep wsX6_keep) := goodIn_app (goodIn_of _ (by decide +kernel)) ggL_law_X6_keep
set_option maxRecDepth 20000 in
theorem ggL_law_X5_back : GoodIn wsL_law wsX5_back := goodIn_r _ [753, 128, 24, 35, 29, 516, 517, 518, 23, 519, 520, 183, 521, 184, 185, 186, 187, 188, 189, 190, 28, 191, 192, 772, 773, 774, 775, 776, 777, 778, 779, 780, 781, 820, 821, 822, 823, 824, 825, 826, 827] (by decide +kernel) (by decide +kernel)
set_option maxRecDepth 20000 in
theorem gL_law_X5_back : GoodIn wsL_law (wsV RL 117 RX5 yX5_back wsX5_back) := goodIn_app (goodIn_of _ (by decide +kernel)) ggL_law_X5_back
set_option maxRecDepth 20000 in
theorem ggL_law_X6_back : GoodIn wsL_law wsX6_back := goodIn_r _ [757, 242, 208, 210, 241, 244, 245, 5, 246, 782, 783, 784, 785, 786, 787, 788, 789, 790, 791, 792, 793, 794, 795, 796, 797, 798, 799, 800, 801, 802, 803, 804, 805] (by decide +kernel) (by decide +kernel)
set_option maxRecDepth 20000 in
theorem gL_law_X6_back : GoodIn wsL_law (wsV RL 120 RX6 yX6_back wsX6_back) := goodIn_app (goodIn_of _ (by decide +kernel)) ggL_law_X6_back
set_option maxRecDepth 20000 in
theorem ggL_law_X5_count : GoodIn wsL_law wsX5_count := goodIn_r _ [761, 19, 125, 414, 24, 479, 762, 763, 419, 33, 667, 29, 508, 128, 15, 251, 593, 594, 595, 2, 596, 351, 352, 353, 354, 325, 335, 336, 337, 23, 338, 185, 184, 355, 356, 357, 18, 358, 136, 629, 458, 459, 460, 461, 462, 463, 772, 773, 774, 775, 776, 777, 778, 779, 780, 781, 808, 809, 810, 811, 812, 813, 814, 815, 816, 817, 818, 819, 820, 821, 822, 823, 824, 828, 829, 830, 831, 825, 826, 827, 806, 807] (by decide +kernel) (by decide +kernel)
set_option maxRecDepth 20000 in
theorem gL_law_X5_count : GoodIn wsL_law (wsV RL 121 RX5 yX5_count wsX5_count) := goodIn_app (goodIn_of _ (by decide +kernel)) ggL_law_X5_count
set_option maxRecDepth 20000 in
theorem ggL_law_X6_count : GoodIn wsL_law wsX6_count := goodIn_r _ [767, 238, 239, 208, 243, 241, 242, 259, 367, 368, 369, 5, 370, 217, 244, 245, 246, 546, 547, 548, 549, 395, 396, 397, 398, 240, 206, 399, 400, 401, 472, 473, 474, 768, 769, 770, 771, 782, 783, 784, 785, 786, 787, 788, 789, 790, 791, 792, 793, 794, 795, 796, 797, 798, 799, 800, 801, 802, 803, 804, 805] (by decide +kernel) (by decide +kernel)
set_option maxRecDepth 20000 in
theorem gL_law_X6_count : GoodIn wsL_law (wsV RL 124 RX6 yX6_count wsX6_count) := goodIn_app (goodIn_of _ (by decide +kernel)) ggL_law_X6_count
theorem dL_law_0 : decode cL_law 0 = .ok (.new 7, 3) := by decide +kernel
theorem dL_law_3 : decode cL_law 3 = .ok (.dup, 1) := by decide +kernel
theorem dL_law_4 : decode cL_law 4 = .ok (.invokespecial 9, 3) := by decide +kernel
theorem dL_law_7 : decode cL_law 7 = .ok (.astore_n 1, 1) := by decide +kernel
theorem dL_law_8 : decode cL_law 8 = .ok (.new 10, 3) := by decide +kernel
theorem dL_law_11 : decode cL_law 11 = .ok (.dup, 1) := by decide +kernel
theorem dL_law_12 : decode cL_law 12 = .ok (.invokespecial 12, 3) := by decide +kernel
theorem dL_law_15 : decode cL_law 15 = .ok (.astore_n 2, 1) := by decide +kernel
theorem dL_law_16 : decode cL_law 16 = .ok (.iconst 0, 1) := by decide +kernel
theorem dL_law_17 : decode cL_law 17 = .ok (.istore_n 3, 1) := by decide +kernel
theorem dL_law_18 : decode cL_law 18 = .ok (.iload_n 3, 1) := by decide +kernel
theorem dL_law_19 : decode cL_law 19 = .ok (.aload_n 0, 1) := by decide +kernel
theorem dL_law_20 : decode cL_law 20 = .ok (.arraylength, 1) := by decide +kernel
theorem dL_law_21 : decode cL_law 21 = .ok (.iconst 4, 1) := by decide +kernel
theorem dL_law_22 : decode cL_law 22 = .ok (.isub, 1) := by decide +kernel
theorem dL_law_23 : decode cL_law 23 = .ok (.if_icmp .gt 840, 3) := by decide +kernel
theorem dL_law_26 : decode cL_law 26 = .ok (.aload_n 0, 1) := by decide +kernel
theorem dL_law_27 : decode cL_law 27 = .ok (.iload_n 3, 1) := by decide +kernel
theorem dL_law_28 : decode cL_law 28 = .ok (.iaload, 1) := by decide +kernel
theorem dL_law_29 : decode cL_law 29 = .ok (.bipush 31, 2) := by decide +kernel
theorem dL_law_31 : decode cL_law 31 = .ok (.iand, 1) := by decide +kernel
theorem dL_law_32 : decode cL_law 32 = .ok (.tableswitch 825 0 26 #[124, 147, 160, 173, 186, 219, 252, 275, 298, 331, 344, 377, 410, 443, 466, 499, 522, 555, 578, 601, 644, 657, 690, 733, 776, 789, 802], 124) := by decide +kernel
theorem dL_law_156 : decode cL_law 156 = .ok (.aload_n 1, 1) := by decide +kernel
theorem dL_law_157 : decode cL_law 157 = .ok (.aload_n 0, 1) := by decide +kernel
theorem dL_law_158 : decode cL_law 158 = .ok (.iload_n 3, 1) := by decide +kernel
theorem dL_law_159 : decode cL_law 159 = .ok (.iconst 1, 1) := by decide +kernel
theorem dL_law_160 : decode cL_law 160 = .ok (.iadd, 1) := by decide +kernel
theorem dL_law_161 : decode cL_law 161 = .ok (.iaload, 1) := by decide +kernel
theorem dL_law_162 : decode cL_law 162 = .ok (.invokevirtual 13, 3) := by decide +kernel
theorem dL_law_165 : decode cL_law 165 = .ok (.aload_n 2, 1) := by decide +kernel
theorem dL_law_166 : decode cL_law 166 = .ok (.aload_n 0, 1) := by decide +kernel
theorem dL_law_167 : decode cL_law 167 = .ok (.iload_n 3, 1) := by decide +kernel
theorem dL_law_168 : decode cL_law 168 = .ok (.iconst 1, 1) := by decide +kernel
theorem dL_law_169 : decode cL_law 169 = .ok (.iadd, 1) := by decide +kernel
theorem dL_law_170 : decode cL_law 170 = .ok (.iaload, 1) := by decide +kernel
theorem dL_law_171 : decode cL_law 171 = .ok (.invokevirtual 17, 3) := by decide +kernel
theorem dL_law_174 : decode cL_law 174 = .ok (.if_icmp .eq 683, 3) := by decide +kernel
theorem dL_law_177 : decode cL_law 177 = .ok (.iconst 0, 1) := by decide +kernel
theorem dL_law_178 : decode cL_law 178 = .ok (.ireturn, 1) := by decide +kernel
theorem dL_law_179 : decode cL_law 179 = .ok (.aload_n 1, 1) := by decide +kernel
theorem dL_law_180 : decode cL_law 180 = .ok (.invokevirtual 18, 3) := by decide +kernel
theorem dL_law_183 : decode cL_law 183 = .ok (.aload_n 2, 1) := by decide +kernel
theorem dL_law_184 : decode cL_law 184 = .ok (.invokevirtual 22, 3) := by decide +kernel
theorem dL_law_187 : decode cL_law 187 = .ok (.if_icmp .eq 670, 3) := by decide +kernel
theorem dL_law_190 : decode cL_law 190 = .ok (.iconst 0, 1) := by decide +kernel
theorem dL_law_191 : decode cL_law 191 = .ok (.ireturn, 1) := by decide +kernel
theorem dL_law_192 : decode cL_law 192 = .ok (.aload_n 1, 1) := by decide +kernel
theorem dL_law_193 : decode cL_law 193 = .ok (.invokevirtual 23, 3) := by decide +kernel
theorem dL_law_196 : decode cL_law 196 = .ok (.aload_n 2, 1) := by decide +kernel
theorem dL_law_197 : decode cL_law 197 = .ok (.invokevirtual 26, 3) := by decide +kernel
theorem dL_law_200 : decode cL_law 200 = .ok (.if_icmp .eq 657, 3) := by decide +kernel
theorem dL_law_203 : decode cL_law 203 = .ok (.iconst 0, 1) := by decide +kernel
theorem dL_law_204 : decode cL_law 204 = .ok (.ireturn, 1) := by decide +kernel
theorem dL_law_205 : decode cL_law 205 = .ok (.aload_n 1, 1) := by decide +kernel
theorem dL_law_206 : decode cL_law 206 = .ok (.invokevirtual 27, 3) := by decide +kernel
theorem dL_law_209 : decode cL_law 209 = .ok (.aload_n 2, 1) := by decide +kernel
theorem dL_law_210 : decode cL_law 210 = .ok (.invokevirtual 30, 3) := by decide +kernel
theorem dL_law_213 : decode cL_law 213 = .ok (.if_icmp .eq 644, 3) := by decide +kernel
theorem dL_law_216 : decode cL_law 216 = .ok (.iconst 0, 1) := by decide +kernel
theorem dL_law_217 : decode cL_law 217 = .ok (.ireturn, 1) := by decide +kernel
theorem dL_law_218 : decode cL_law 218 = .ok (.aload_n 1, 1) := by decide +kernel
theorem dL_law_219 : decode cL_law 219 = .ok (.aload_n 0, 1) := by decide +kernel
theorem dL_law_220 : decode cL_law 220 = .ok (.iload_n 3, 1) := by decide +kernel
theorem dL_law_221 : decode cL_law 221 = .ok (.iconst 1, 1) := by decide +kernel
theorem dL_law_222 : decode cL_law 222 = .ok (.iadd, 1) := by decide +kernel
theorem dL_law_223 : decode cL_law 223 = .ok (.iaload, 1) := by decide +kernel
theorem dL_law_224 : decode cL_law 224 = .ok (.aload_n 0, 1) := by decide +kernel
theorem dL_law_225 : decode cL_law 225 = .ok (.iload_n 3, 1) := by decide +kernel
theorem dL_law_226 : decode cL_law 226 = .ok (.iconst 2, 1) := by decide +kernel
theorem dL_law_227 : decode cL_law 227 = .ok (.iadd, 1) := by decide +kernel
theorem dL_law_228 : decode cL_law 228 = .ok (.iaload, 1) := by decide +kernel
theorem dL_law_229 : decode cL_law 229 = .ok (.invokevirtual 31, 3) := by decide +kernel
theorem dL_law_232 : decode cL_law 232 = .ok (.aload_n 2, 1) := by decide +kernel
theorem dL_law_233 : decode cL_law 233 = .ok (.aload_n 0, 1) := by decide +kernel
theorem dL_law_234 : decode cL_law 234 = .ok (.iload_n 3, 1) := by decide +kernel
theorem dL_law_235 : decode cL_law 235 = .ok (.iconst 1, 1) := by decide +kernel
theorem dL_law_236 : decode cL_law 236 = .ok (.iadd, 1) := by decide +kernel
theorem dL_law_237 : decode cL_law 237 = .ok (.iaload, 1) := by decide +kernel
theorem dL_law_238 : decode cL_law 238 = .ok (.aload_n 0, 1) := by decide +kernel
theorem dL_law_239 : decode cL_law 239 = .ok (.iload_n 3, 1) := by decide +kernel
theorem dL_law_240 : decode cL_law 240 = .ok (.iconst 2, 1) := by decide +kernel
theorem dL_law_241 : decode cL_law 241 = .ok (.iadd, 1) := by decide +kernel
theorem dL_law_242 : decode cL_law 242 = .ok (.iaload, 1) := by decide +kernel
theorem dL_law_243 : decode cL_law 243 = .ok (.invokevirtual 35, 3) := by decide +kernel
theorem dL_law_246 : decode cL_law 246 = .ok (.if_icmp .eq 611, 3) := by decide +kernel
theorem dL_law_249 : decode cL_law 249 = .ok (.iconst 0, 1) := by decide +kernel
theorem dL_law_250 : decode cL_law 250 = .ok (.ireturn, 1) := by decide +kernel
theorem dL_law_251 : decode cL_law 251 = .ok (.aload_n 1, 1) := by decide +kernel
theorem dL_law_252 : decode cL_law 252 = .ok (.aload_n 0, 1) := by decide +kernel
theorem dL_law_253 : decode cL_law 253 = .ok (.iload_n 3, 1) := by decide +kernel
theorem dL_law_254 : decode cL_law 254 = .ok (.iconst 1, 1) := by decide +kernel
theorem dL_law_255 : decode cL_law 255 = .ok (.iadd, 1) := by decide +kernel
theorem dL_law_256 : decode cL_law 256 = .ok (.iaload, 1) := by decide +kernel
theorem dL_law_257 : decode cL_law 257 = .ok (.aload_n 0, 1) := by decide +kernel
theorem dL_law_258 : decode cL_law 258 = .ok (.iload_n 3, 1) := by decide +kernel
theorem dL_law_259 : decode cL_law 259 = .ok (.iconst 2, 1) := by decide +kernel
theorem dL_law_260 : decode cL_law 260 = .ok (.iadd, 1) := by decide +kernel
theorem dL_law_261 : decode cL_law 261 = .ok (.iaload, 1) := by decide +kernel
theorem dL_law_262 : decode cL_law 262 = .ok (.invokevirtual 36, 3) := by decide +kernel
theorem dL_law_265 : decode cL_law 265 = .ok (.aload_n 2, 1) := by decide +kernel
theorem dL_law_266 : decode cL_law 266 = .ok (.aload_n 0, 1) := by decide +kernel
theorem dL_law_267 : decode cL_law 267 = .ok (.iload_n 3, 1) := by decide +kernel
theorem dL_law_268 : decode cL_law 268 = .ok (.iconst 1, 1) := by decide +kernel
theorem dL_law_269 : decode cL_law 269 = .ok (.iadd, 1) := by decide +kernel
theorem dL_law_270 : decode cL_law 270 = .ok (.iaload, 1) := by decide +kernel
theorem dL_law_271 : decode cL_law 271 = .ok (.aload_n 0, 1) := by decide +kernel
theorem dL_law_272 : decode cL_law 272 = .ok (.iload_n 3, 1) := by decide +kernel
theorem dL_law_273 : decode cL_law 273 = .ok (.iconst 2, 1) := by decide +kernel
theorem dL_law_274 : decode cL_law 274 = .ok (.iadd, 1) := by decide +kernel
theorem dL_law_275 : decode cL_law 275 = .ok (.iaload, 1) := by decide +kernel
theorem dL_law_276 : decode cL_law 276 = .ok (.invokevirtual 39, 3) := by decide +kernel
theorem dL_law_279 : decode cL_law 279 = .ok (.if_icmp .eq 578, 3) := by decide +kernel
theorem dL_law_282 : decode cL_law 282 = .ok (.iconst 0, 1) := by decide +kernel
theorem dL_law_283 : decode cL_law 283 = .ok (.ireturn, 1) := by decide +kernel
theorem dL_law_284 : decode cL_law 284 = .ok (.aload_n 1, 1) := by decide +kernel
theorem dL_law_285 : decode cL_law 285 = .ok (.aload_n 0, 1) := by decide +kernel
theorem dL_law_286 : decode cL_law 286 = .ok (.iload_n 3, 1) := by decide +kernel
theorem dL_law_287 : decode cL_law 287 = .ok (.iconst 1, 1) := by decide +kernel
theorem dL_law_288 : decode cL_law 288 = .ok (.iadd, 1) := by decide +kernel
theorem dL_law_289 : decode cL_law 289 = .ok (.iaload, 1) := by decide +kernel
theorem dL_law_290 : decode cL_law 290 = .ok (.invokevirtual 40, 3) := by decide +kernel
theorem dL_law_293 : decode cL_law 293 = .ok (.aload_n 2, 1) := by decide +kernel
theorem dL_law_294 : decode cL_law 294 = .ok (.aload_n 0, 1) := by decide +kernel
theorem dL_law_295 : decode cL_law 295 = .ok (.iload_n 3, 1) := by decide +kernel
theorem dL_law_296 : decode cL_law 296 = .ok (.iconst 1, 1) := by decide +kernel
theorem dL_law_297 : decode cL_law 297 = .ok (.iadd, 1) := by decide +kernel
theorem dL_law_298 : decode cL_law 298 = .ok (.iaload, 1) := by decide +kernel
theorem dL_law_299 : decode cL_law 299 = .ok (.invokevirtual 43, 3) := by decide +kernel
theorem dL_law_302 : decode cL_law 302 = .ok (.if_icmp .eq 555, 3) := by decide +kernel
theorem dL_law_305 : decode cL_law 305 = .ok (.iconst 0, 1) := by decide +kernel
theorem dL_law_306 : decode cL_law 306 = .ok (.ireturn, 1) := by decide +kernel
theorem dL_law_307 : decode cL_law 307 = .ok (.aload_n 1, 1) := by decide +kernel
theorem dL_law_308 : decode cL_law 308 = .ok (.aload_n 0, 1) := by decide +kernel
theorem dL_law_309 : decode cL_law 309 = .ok (.iload_n 3, 1) := by decide +kernel
theorem dL_law_310 : decode cL_law 310 = .ok (.iconst 1, 1) := by decide +kernel
theorem dL_law_311 : decode cL_law 311 = .ok (.iadd, 1) := by decide +kernel
theorem dL_law_312 : decode cL_law 312 = .ok (.iaload, 1) := by decide +kernel
theorem dL_law_313 : decode cL_law 313 = .ok (.invokevirtual 44, 3) := by decide +kernel
theorem dL_law_316 : decode cL_law 316 = .ok (.aload_n 2, 1) := by decide +kernel
theorem dL_law_317 : decode cL_law 317 = .ok (.aload_n 0, 1) := by decide +kernel
theorem dL_law_318 : decode cL_law 318 = .ok (.iload_n 3, 1) := by decide +kernel
theorem dL_law_319 : decode cL_law 319 = .ok (.iconst 1, 1) := by decide +kernel
theorem dL_law_320 : decode cL_law 320 = .ok (.iadd, 1) := by decide +kernel
theorem dL_law_321 : decode cL_law 321 = .ok (.iaload, 1) := by decide +kernel
theorem dL_law_322 : decode cL_law 322 = .ok (.invokevirtual 47, 3) := by decide +kernel
theorem dL_law_325 : decode cL_law 325 = .ok (.if_icmp .eq 532, 3) := by decide +kernel
theorem dL_law_328 : decode cL_law 328 = .ok (.iconst 0, 1) := by decide +kernel
theorem dL_law_329 : decode cL_law 329 = .ok (.ireturn, 1) := by decide +kernel
theorem dL_law_330 : decode cL_law 330 = .ok (.aload_n 1, 1) := by decide +kernel
theorem dL_law_331 : decode cL_law 331 = .ok (.aload_n 0, 1) := by decide +kernel
theorem dL_law_332 : decode cL_law 332 = .ok (.iload_n 3, 1) := by decide +kernel
theorem dL_law_333 : decode cL_law 333 = .ok (.iconst 1, 1) := by decide +kernel
theorem dL_law_334 : decode cL_law 334 = .ok (.iadd, 1) := by decide +kernel
theorem dL_law_335 : decode cL_law 335 = .ok (.iaload, 1) := by decide +kernel
theorem dL_law_336 : decode cL_law 336 = .ok (.aload_n 0, 1) := by decide +kernel
theorem dL_law_337 : decode cL_law 337 = .ok (.iload_n 3, 1) := by decide +kernel
theorem dL_law_338 : decode cL_law 338 = .ok (.iconst 2, 1) := by decide +kernel
theorem dL_law_339 : decode cL_law 339 = .ok (.iadd, 1) := by decide +kernel
theorem dL_law_340 : decode cL_law 340 = .ok (.iaload, 1) := by decide +kernel
theorem dL_law_341 : decode cL_law 341 = .ok (.invokevirtual 48, 3) := by decide +kernel
theorem dL_law_344 : decode cL_law 344 = .ok (.aload_n 2, 1) := by decide +kernel
theorem dL_law_345 : decode cL_law 345 = .ok (.aload_n 0, 1) := by decide +kernel
theorem dL_law_346 : decode cL_law 346 = .ok (.iload_n 3, 1) := by decide +kernel
theorem dL_law_347 : decode cL_law 347 = .ok (.iconst 1, 1) := by decide +kernel
theorem dL_law_348 : decode cL_law 348 = .ok (.iadd, 1) := by decide +kernel
theorem dL_law_349 : decode cL_law 349 = .ok (.iaload, 1) := by decide +kernel
theorem dL_law_350 : decode cL_law 350 = .ok (.aload_n 0, 1) := by decide +kernel
theorem dL_law_351 : decode cL_law 351 = .ok (.iload_n 3, 1) := by decide +kernel
theorem dL_law_352 : decode cL_law 352 = .ok (.iconst 2, 1) := by decide +kernel
theorem dL_law_353 : decode cL_law 353 = .ok (.iadd, 1) := by decide +kernel
theorem dL_law_354 : decode cL_law 354 = .ok (.iaload, 1) := by decide +kernel
theorem dL_law_355 : decode cL_law 355 = .ok (.invokevirtual 51, 3) := by decide +kernel
theorem dL_law_358 : decode cL_law 358 = .ok (.if_icmp .eq 499, 3) := by decide +kernel
theorem dL_law_361 : decode cL_law 361 = .ok (.iconst 0, 1) := by decide +kernel
theorem dL_law_362 : decode cL_law 362 = .ok (.ireturn, 1) := by decide +kernel
theorem dL_law_363 : decode cL_law 363 = .ok (.aload_n 1, 1) := by decide +kernel
theorem dL_law_364 : decode cL_law 364 = .ok (.invokevirtual 52, 3) := by decide +kernel
theorem dL_law_367 : decode cL_law 367 = .ok (.aload_n 2, 1) := by decide +kernel
theorem dL_law_368 : decode cL_law 368 = .ok (.invokevirtual 55, 3) := by decide +kernel
theorem dL_law_371 : decode cL_law 371 = .ok (.if_icmp .eq 486, 3) := by decide +kernel
theorem dL_law_374 : decode cL_law 374 = .ok (.iconst 0, 1) := by decide +kernel
theorem dL_law_375 : decode cL_law 375 = .ok (.ireturn, 1) := by decide +kernel
theorem dL_law_376 : decode cL_law 376 = .ok (.aload_n 1, 1) := by decide +kernel
theorem dL_law_377 : decode cL_law 377 = .ok (.aload_n 0, 1) := by decide +kernel
theorem dL_law_378 : decode cL_law 378 = .ok (.iload_n 3, 1) := by decide +kernel
theorem dL_law_379 : decode cL_law 379 = .ok (.iconst 1, 1) := by decide +kernel
theorem dL_law_380 : decode cL_law 380 = .ok (.iadd, 1) := by decide +kernel
theorem dL_law_381 : decode cL_law 381 = .ok (.iaload, 1) := by decide +kernel
theorem dL_law_382 : decode cL_law 382 = .ok (.aload_n 0, 1) := by decide +kernel
theorem dL_law_383 : decode cL_law 383 = .ok (.iload_n 3, 1) := by decide +kernel
theorem dL_law_384 : decode cL_law 384 = .ok (.iconst 2, 1) := by decide +kernel
theorem dL_law_385 : decode cL_law 385 = .ok (.iadd, 1) := by decide +kernel
theorem dL_law_386 : decode cL_law 386 = .ok (.iaload, 1) := by decide +kernel
theorem dL_law_387 : decode cL_law 387 = .ok (.invokevirtual 56, 3) := by decide +kernel
theorem dL_law_390 : decode cL_law 390 = .ok (.aload_n 2, 1) := by decide +kernel
theorem dL_law_391 : decode cL_law 391 = .ok (.aload_n 0, 1) := by decide +kernel
theorem dL_law_392 : decode cL_law 392 = .ok (.iload_n 3, 1) := by decide +kernel
theorem dL_law_393 : decode cL_law 393 = .ok (.iconst 1, 1) := by decide +kernel
theorem dL_law_394 : decode cL_law 394 = .ok (.iadd, 1) := by decide +kernel
theorem dL_law_395 : decode cL_law 395 = .ok (.iaload, 1) := by decide +kernel
theorem dL_law_396 : decode cL_law 396 = .ok (.aload_n 0, 1) := by decide +kernel
theorem dL_law_397 : decode cL_law 397 = .ok (.iload_n 3, 1) := by decide +kernel
theorem dL_law_398 : decode cL_law 398 = .ok (.iconst 2, 1) := by decide +kernel
theorem dL_law_399 : decode cL_law 399 = .ok (.iadd, 1) := by decide +kernel
theorem dL_law_400 : decode cL_law 400 = .ok (.iaload, 1) := by decide +kernel
theorem dL_law_401 : decode cL_law 401 = .ok (.invokevirtual 59, 3) := by decide +kernel
theorem dL_law_404 : decode cL_law 404 = .ok (.if_icmp .eq 453, 3) := by decide +kernel
theorem dL_law_407 : decode cL_law 407 = .ok (.iconst 0, 1) := by decide +kernel
theorem dL_law_408 : decode cL_law 408 = .ok (.ireturn, 1) := by decide +kernel
theorem dL_law_409 : decode cL_law 409 = .ok (.aload_n 1, 1) := by decide +kernel
theorem dL_law_410 : decode cL_law 410 = .ok (.aload_n 0, 1) := by decide +kernel
theorem dL_law_411 : decode cL_law 411 = .ok (.iload_n 3, 1) := by decide +kernel
theorem dL_law_412 : decode cL_law 412 = .ok (.iconst 1, 1) := by decide +kernel
theorem dL_law_413 : decode cL_law 413 = .ok (.iadd, 1) := by decide +kernel
theorem dL_law_414 : decode cL_law 414 = .ok (.iaload, 1) := by decide +kernel
theorem dL_law_415 : decode cL_law 415 = .ok (.aload_n 0, 1) := by decide +kernel
theorem dL_law_416 : decode cL_law 416 = .ok (.iload_n 3, 1) := by decide +kernel
theorem dL_law_417 : decode cL_law 417 = .ok (.iconst 2, 1) := by decide +kernel
theorem dL_law_418 : decode cL_law 418 = .ok (.iadd, 1) := by decide +kernel
theorem dL_law_419 : decode cL_law 419 = .ok (.iaload, 1) := by decide +kernel
theorem dL_law_420 : decode cL_law 420 = .ok (.invokevirtual 60, 3) := by decide +kernel
theorem dL_law_423 : decode cL_law 423 = .ok (.aload_n 2, 1) := by decide +kernel
theorem dL_law_424 : decode cL_law 424 = .ok (.aload_n 0, 1) := by decide +kernel
theorem dL_law_425 : decode cL_law 425 = .ok (.iload_n 3, 1) := by decide +kernel
theorem dL_law_426 : decode cL_law 426 = .ok (.iconst 1, 1) := by decide +kernel
theorem dL_law_427 : decode cL_law 427 = .ok (.iadd, 1) := by decide +kernel
theorem dL_law_428 : decode cL_law 428 = .ok (.iaload, 1) := by decide +kernel
theorem dL_law_429 : decode cL_law 429 = .ok (.aload_n 0, 1) := by decide +kernel
theorem dL_law_430 : decode cL_law 430 = .ok (.iload_n 3, 1) := by decide +kernel
theorem dL_law_431 : decode cL_law 431 = .ok (.iconst 2, 1) := by decide +kernel
theorem dL_law_432 : decode cL_law 432 = .ok (.iadd, 1) := by decide +kernel
theorem dL_law_433 : decode cL_law 433 = .ok (.iaload, 1) := by decide +kernel
theorem dL_law_434 : decode cL_law 434 = .ok (.invokevirtual 63, 3) := by decide +kernel
theorem dL_law_437 : decode cL_law 437 = .ok (.if_icmp .eq 420, 3) := by decide +kernel
theorem dL_law_440 : decode cL_law 440 = .ok (.iconst 0, 1) := by decide +kernel
theorem dL_law_441 : decode cL_law 441 = .ok (.ireturn, 1) := by decide +kernel
theorem dL_law_442 : decode cL_law 442 = .ok (.aload_n 1, 1) := by decide +kernel
theorem dL_law_443 : decode cL_law 443 = .ok (.aload_n 0, 1) := by decide +kernel
theorem dL_law_444 : decode cL_law 444 = .ok (.iload_n 3, 1) := by decide +kernel
theorem dL_law_445 : decode cL_law 445 = .ok (.iconst 1, 1) := by decide +kernel
theorem dL_law_446 : decode cL_law 446 = .ok (.iadd, 1) := by decide +kernel
theorem dL_law_447 : decode cL_law 447 = .ok (.iaload, 1) := by decide +kernel
theorem dL_law_448 : decode cL_law 448 = .ok (.aload_n 0, 1) := by decide +kernel
theorem dL_law_449 : decode cL_law 449 = .ok (.iload_n 3, 1) := by decide +kernel
theorem dL_law_450 : decode cL_law 450 = .ok (.iconst 2, 1) := by decide +kernel
theorem dL_law_451 : decode cL_law 451 = .ok (.iadd, 1) := by decide +kernel
theorem dL_law_452 : decode cL_law 452 = .ok (.iaload, 1) := by decide +kernel
theorem dL_law_453 : decode cL_law 453 = .ok (.invokevirtual 64, 3) := by decide +kernel
theorem dL_law_456 : decode cL_law 456 = .ok (.aload_n 2, 1) := by decide +kernel
theorem dL_law_457 : decode cL_law 457 = .ok (.aload_n 0, 1) := by decide +kernel
theorem dL_law_458 : decode cL_law 458 = .ok (.iload_n 3, 1) := by decide +kernel
theorem dL_law_459 : decode cL_law 459 = .ok (.iconst 1, 1) := by decide +kernel
theorem dL_law_460 : decode cL_law 460 = .ok (.iadd, 1) := by decide +kernel
theorem dL_law_461 : decode cL_law 461 = .ok (.iaload, 1) := by decide +kernel
theorem dL_law_462 : decode cL_law 462 = .ok (.aload_n 0, 1) := by decide +kernel
theorem dL_law_463 : decode cL_law 463 = .ok (.iload_n 3, 1) := by decide +kernel
theorem dL_law_464 : decode cL_law 464 = .ok (.iconst 2, 1) := by decide +kernel
theorem dL_law_465 : decode cL_law 465 = .ok (.iadd, 1) := by decide +kernel
theorem dL_law_466 : decode cL_law 466 = .ok (.iaload, 1) := by decide +kernel
theorem dL_law_467 : decode cL_law 467 = .ok (.invokevirtual 67, 3) := by decide +kernel
theorem dL_law_470 : decode cL_law 470 = .ok (.if_icmp .eq 387, 3) := by decide +kernel
theorem dL_law_473 : decode cL_law 473 = .ok (.iconst 0, 1) := by decide +kernel
theorem dL_law_474 : decode cL_law 474 = .ok (.ireturn, 1) := by decide +kernel
theorem dL_law_475 : decode cL_law 475 = .ok (.aload_n 1, 1) := by decide +kernel
theorem dL_law_476 : decode cL_law 476 = .ok (.aload_n 0, 1) := by decide +kernel
theorem dL_law_477 : decode cL_law 477 = .ok (.iload_n 3, 1) := by decide +kernel
theorem dL_law_478 : decode cL_law 478 = .ok (.iconst 1, 1) := by decide +kernel
theorem dL_law_479 : decode cL_law 479 = .ok (.iadd, 1) := by decide +kernel
theorem dL_law_480 : decode cL_law 480 = .ok (.iaload, 1) := by decide +kernel
theorem dL_law_481 : decode cL_law 481 = .ok (.invokevirtual 68, 3) := by decide +kernel
theorem dL_law_484 : decode cL_law 484 = .ok (.aload_n 2, 1) := by decide +kernel
theorem dL_law_485 : decode cL_law 485 = .ok (.aload_n 0, 1) := by decide +kernel
theorem dL_law_486 : decode cL_law 486 = .ok (.iload_n 3, 1) := by decide +kernel
theorem dL_law_487 : decode cL_law 487 = .ok (.iconst 1, 1) := by decide +kernel
theorem dL_law_488 : decode cL_law 488 = .ok (.iadd, 1) := by decide +kernel
theorem dL_law_489 : decode cL_law 489 = .ok (.iaload, 1) := by decide +kernel
theorem dL_law_490 : decode cL_law 490 = .ok (.invokevirtual 71, 3) := by decide +kernel
theorem dL_law_493 : decode cL_law 493 = .ok (.if_icmp .eq 364, 3) := by decide +kernel
theorem dL_law_496 : decode cL_law 496 = .ok (.iconst 0, 1) := by decide +kernel
theorem dL_law_497 : decode cL_law 497 = .ok (.ireturn, 1) := by decide +kernel
theorem dL_law_498 : decode cL_law 498 = .ok (.aload_n 1, 1) := by decide +kernel
theorem dL_law_499 : decode cL_law 499 = .ok (.aload_n 0, 1) := by decide +kernel
theorem dL_law_500 : decode cL_law 500 = .ok (.iload_n 3, 1) := by decide +kernel
theorem dL_law_501 : decode cL_law 501 = .ok (.iconst 1, 1) := by decide +kernel
theorem dL_law_502 : decode cL_law 502 = .ok (.iadd, 1) := by decide +kernel
theorem dL_law_503 : decode cL_law 503 = .ok (.iaload, 1) := by decide +kernel
theorem dL_law_504 : decode cL_law 504 = .ok (.aload_n 0, 1) := by decide +kernel
theorem dL_law_505 : decode cL_law 505 = .ok (.iload_n 3, 1) := by decide +kernel
theorem dL_law_506 : decode cL_law 506 = .ok (.iconst 2, 1) := by decide +kernel
theorem dL_law_507 : decode cL_law 507 = .ok (.iadd, 1) := by decide +kernel
theorem dL_law_508 : decode cL_law 508 = .ok (.iaload, 1) := by decide +kernel
theorem dL_law_509 : decode cL_law 509 = .ok (.invokevirtual 72, 3) := by decide +kernel
theorem dL_law_512 : decode cL_law 512 = .ok (.aload_n 2, 1) := by decide +kernel
theorem dL_law_513 : decode cL_law 513 = .ok (.aload_n 0, 1) := by decide +kernel
theorem dL_law_514 : decode cL_law 514 = .ok (.iload_n 3, 1) := by decide +kernel
theorem dL_law_515 : decode cL_law 515 = .ok (.iconst 1, 1) := by decide +kernel
theorem dL_law_516 : decode cL_law 516 = .ok (.iadd, 1) := by decide +kernel
theorem dL_law_517 : decode cL_law 517 = .ok (.iaload, 1) := by decide +kernel
theorem dL_law_518 : decode cL_law 518 = .ok (.aload_n 0, 1) := by decide +kernel
theorem dL_law_519 : decode cL_law 519 = .ok (.iload_n 3, 1) := by decide +kernel
theorem dL_law_520 : decode cL_law 520 = .ok (.iconst 2, 1) := by decide +kernel
theorem dL_law_521 : decode cL_law 521 = .ok (.iadd, 1) := by decide +kernel
theorem dL_law_522 : decode cL_law 522 = .ok (.iaload, 1) := by decide +kernel
theorem dL_law_523 : decode cL_law 523 = .ok (.invokevirtual 75, 3) := by decide +kernel
theorem dL_law_526 : decode cL_law 526 = .ok (.if_icmp .eq 331, 3) := by decide +kernel
theorem dL_law_529 : decode cL_law 529 = .ok (.iconst 0, 1) := by decide +kernel
theorem dL_law_530 : decode cL_law 530 = .ok (.ireturn, 1) := by decide +kernel
theorem dL_law_531 : decode cL_law 531 = .ok (.aload_n 1, 1) := by decide +kernel
theorem dL_law_532 : decode cL_law 532 = .ok (.aload_n 0, 1) := by decide +kernel
theorem dL_law_533 : decode cL_law 533 = .ok (.iload_n 3, 1) := by decide +kernel
theorem dL_law_534 : decode cL_law 534 = .ok (.iconst 1, 1) := by decide +kernel
theorem dL_law_535 : decode cL_law 535 = .ok (.iadd, 1) := by decide +kernel
theorem dL_law_536 : decode cL_law 536 = .ok (.iaload, 1) := by decide +kernel
theorem dL_law_537 : decode cL_law 537 = .ok (.invokevirtual 76, 3) := by decide +kernel
theorem dL_law_540 : decode cL_law 540 = .ok (.aload_n 2, 1) := by decide +kernel
theorem dL_law_541 : decode cL_law 541 = .ok (.aload_n 0, 1) := by decide +kernel
theorem dL_law_542 : decode cL_law 542 = .ok (.iload_n 3, 1) := by decide +kernel
theorem dL_law_543 : decode cL_law 543 = .ok (.iconst 1, 1) := by decide +kernel
theorem dL_law_544 : decode cL_law 544 = .ok (.iadd, 1) := by decide +kernel
theorem dL_law_545 : decode cL_law 545 = .ok (.iaload, 1) := by decide +kernel
theorem dL_law_546 : decode cL_law 546 = .ok (.invokevirtual 79, 3) := by decide +kernel
theorem dL_law_549 : decode cL_law 549 = .ok (.if_icmp .eq 308, 3) := by decide +kernel
theorem dL_law_552 : decode cL_law 552 = .ok (.iconst 0, 1) := by decide +kernel
theorem dL_law_553 : decode cL_law 553 = .ok (.ireturn, 1) := by decide +kernel
theorem dL_law_554 : decode cL_law 554 = .ok (.aload_n 1, 1) := by decide +kernel
theorem dL_law_555 : decode cL_law 555 = .ok (.aload_n 0, 1) := by decide +kernel
theorem dL_law_556 : decode cL_law 556 = .ok (.iload_n 3, 1) := by decide +kernel
theorem dL_law_557 : decode cL_law 557 = .ok (.iconst 1, 1) := by decide +kernel
theorem dL_law_558 : decode cL_law 558 = .ok (.iadd, 1) := by decide +kernel
theorem dL_law_559 : decode cL_law 559 = .ok (.iaload, 1) := by decide +kernel
theorem dL_law_560 : decode cL_law 560 = .ok (.aload_n 0, 1) := by decide +kernel
theorem dL_law_561 : decode cL_law 561 = .ok (.iload_n 3, 1) := by decide +kernel
theorem dL_law_562 : decode cL_law 562 = .ok (.iconst 2, 1) := by decide +kernel
theorem dL_law_563 : decode cL_law 563 = .ok (.iadd, 1) := by decide +kernel
theorem dL_law_564 : decode cL_law 564 = .ok (.iaload, 1) := by decide +kernel
theorem dL_law_565 : decode cL_law 565 = .ok (.invokevirtual 80, 3) := by decide +kernel
theorem dL_law_568 : decode cL_law 568 = .ok (.aload_n 2, 1) := by decide +kernel
theorem dL_law_569 : decode cL_law 569 = .ok (.aload_n 0, 1) := by decide +kernel
theorem dL_law_570 : decode cL_law 570 = .ok (.iload_n 3, 1) := by decide +kernel
theorem dL_law_571 : decode cL_law 571 = .ok (.iconst 1, 1) := by decide +kernel
theorem dL_law_572 : decode cL_law 572 = .ok (.iadd, 1) := by decide +kernel
theorem dL_law_573 : decode cL_law 573 = .ok (.iaload, 1) := by decide +kernel
theorem dL_law_574 : decode cL_law 574 = .ok (.aload_n 0, 1) := by decide +kernel
theorem dL_law_575 : decode cL_law 575 = .ok (.iload_n 3, 1) := by decide +kernel
theorem dL_law_576 : decode cL_law 576 = .ok (.iconst 2, 1) := by decide +kernel
theorem dL_law_577 : decode cL_law 577 = .ok (.iadd, 1) := by decide +kernel
theorem dL_law_578 : decode cL_law 578 = .ok (.iaload, 1) := by decide +kernel
theorem dL_law_579 : decode cL_law 579 = .ok (.invokevirtual 83, 3) := by decide +kernel
theorem dL_law_582 : decode cL_law 582 = .ok (.if_icmp .eq 275, 3) := by decide +kernel
theorem dL_law_585 : decode cL_law 585 = .ok (.iconst 0, 1) := by decide +kernel
theorem dL_law_586 : decode cL_law 586 = .ok (.ireturn, 1) := by decide +kernel
theorem dL_law_587 : decode cL_law 587 = .ok (.aload_n 1, 1) := by decide +kernel
theorem dL_law_588 : decode cL_law 588 = .ok (.aload_n 0, 1) := by decide +kernel
theorem dL_law_589 : decode cL_law 589 = .ok (.iload_n 3, 1) := by decide +kernel
theorem dL_law_590 : decode cL_law 590 = .ok (.iconst 1, 1) := by decide +kernel
theorem dL_law_591 : decode cL_law 591 = .ok (.iadd, 1) := by decide +kernel
theorem dL_law_592 : decode cL_law 592 = .ok (.iaload, 1) := by decide +kernel
theorem dL_law_593 : decode cL_law 593 = .ok (.invokevirtual 84, 3) := by decide +kernel
theorem dL_law_596 : decode cL_law 596 = .ok (.aload_n 2, 1) := by decide +kernel
theorem dL_law_597 : decode cL_law 597 = .ok (.aload_n 0, 1) := by decide +kernel
theorem dL_law_598 : decode cL_law 598 = .ok (.iload_n 3, 1) := by decide +kernel
theorem dL_law_599 : decode cL_law 599 = .ok (.iconst 1, 1) := by decide +kernel
theorem dL_law_600 : decode cL_law 600 = .ok (.iadd, 1) := by decide +kernel
theorem dL_law_601 : decode cL_law 601 = .ok (.iaload, 1) := by decide +kernel
theorem dL_law_602 : decode cL_law 602 = .ok (.invokevirtual 87, 3) := by decide +kernel
theorem dL_law_605 : decode cL_law 605 = .ok (.if_icmp .eq 252, 3) := by decide +kernel
theorem dL_law_608 : decode cL_law 608 = .ok (.iconst 0, 1) := by decide +kernel
theorem dL_law_609 : decode cL_law 609 = .ok (.ireturn, 1) := by decide +kernel
theorem dL_law_610 : decode cL_law 610 = .ok (.aload_n 1, 1) := by decide +kernel
theorem dL_law_611 : decode cL_law 611 = .ok (.aload_n 0, 1) := by decide +kernel
theorem dL_law_612 : decode cL_law 612 = .ok (.iload_n 3, 1) := by decide +kernel
theorem dL_law_613 : decode cL_law 613 = .ok (.iconst 1, 1) := by decide +kernel
theorem dL_law_614 : decode cL_law 614 = .ok (.iadd, 1) := by decide +kernel
theorem dL_law_615 : decode cL_law 615 = .ok (.iaload, 1) := by decide +kernel
theorem dL_law_616 : decode cL_law 616 = .ok (.invokevirtual 88, 3) := by decide +kernel
theorem dL_law_619 : decode cL_law 619 = .ok (.aload_n 2, 1) := by decide +kernel
theorem dL_law_620 : decode cL_law 620 = .ok (.aload_n 0, 1) := by decide +kernel
theorem dL_law_621 : decode cL_law 621 = .ok (.iload_n 3, 1) := by decide +kernel
theorem dL_law_622 : decode cL_law 622 = .ok (.iconst 1, 1) := by decide +kernel
theorem dL_law_623 : decode cL_law 623 = .ok (.iadd, 1) := by decide +kernel
theorem dL_law_624 : decode cL_law 624 = .ok (.iaload, 1) := by decide +kernel
theorem dL_law_625 : decode cL_law 625 = .ok (.invokevirtual 91, 3) := by decide +kernel
theorem dL_law_628 : decode cL_law 628 = .ok (.if_icmp .eq 229, 3) := by decide +kernel
theorem dL_law_631 : decode cL_law 631 = .ok (.iconst 0, 1) := by decide +kernel
theorem dL_law_632 : decode cL_law 632 = .ok (.ireturn, 1) := by decide +kernel
theorem dL_law_633 : decode cL_law 633 = .ok (.aload_n 1, 1) := by decide +kernel
theorem dL_law_634 : decode cL_law 634 = .ok (.aload_n 0, 1) := by decide +kernel
theorem dL_law_635 : decode cL_law 635 = .ok (.iload_n 3, 1) := by decide +kernel
theorem dL_law_636 : decode cL_law 636 = .ok (.iconst 1, 1) := by decide +kernel
theorem dL_law_637 : decode cL_law 637 = .ok (.iadd, 1) := by decide +kernel
theorem dL_law_638 : decode cL_law 638 = .ok (.iaload, 1) := by decide +kernel
theorem dL_law_639 : decode cL_law 639 = .ok (.aload_n 0, 1) := by decide +kernel
theorem dL_law_640 : decode cL_law 640 = .ok (.iload_n 3, 1) := by decide +kernel
theorem dL_law_641 : decode cL_law 641 = .ok (.iconst 2, 1) := by decide +kernel
theorem dL_law_642 : decode cL_law 642 = .ok (.iadd, 1) := by decide +kernel
theorem dL_law_643 : decode cL_law 643 = .ok (.iaload, 1) := by decide +kernel
theorem dL_law_644 : decode cL_law 644 = .ok (.aload_n 0, 1) := by decide +kernel
theorem dL_law_645 : decode cL_law 645 = .ok (.iload_n 3, 1) := by decide +kernel
theorem dL_law_646 : decode cL_law 646 = .ok (.iconst 3, 1) := by decide +kernel
theorem dL_law_647 : decode cL_law 647 = .ok (.iadd, 1) := by decide +kernel
theorem dL_law_648 : decode cL_law 648 = .ok (.iaload, 1) := by decide +kernel
theorem dL_law_649 : decode cL_law 649 = .ok (.invokevirtual 92, 3) := by decide +kernel
theorem dL_law_652 : decode cL_law 652 = .ok (.aload_n 2, 1) := by decide +kernel
theorem dL_law_653 : decode cL_law 653 = .ok (.aload_n 0, 1) := by decide +kernel
theorem dL_law_654 : decode cL_law 654 = .ok (.iload_n 3, 1) := by decide +kernel
theorem dL_law_655 : decode cL_law 655 = .ok (.iconst 1, 1) := by decide +kernel
theorem dL_law_656 : decode cL_law 656 = .ok (.iadd, 1) := by decide +kernel
theorem dL_law_657 : decode cL_law 657 = .ok (.iaload, 1) := by decide +kernel
theorem dL_law_658 : decode cL_law 658 = .ok (.aload_n 0, 1) := by decide +kernel
theorem dL_law_659 : decode cL_law 659 = .ok (.iload_n 3, 1) := by decide +kernel
theorem dL_law_660 : decode cL_law 660 = .ok (.iconst 2, 1) := by decide +kernel
theorem dL_law_661 : decode cL_law 661 = .ok (.iadd, 1) := by decide +kernel
theorem dL_law_662 : decode cL_law 662 = .ok (.iaload, 1) := by decide +kernel
theorem dL_law_663 : decode cL_law 663 = .ok (.aload_n 0, 1) := by decide +kernel
theorem dL_law_664 : decode cL_law 664 = .ok (.iload_n 3, 1) := by decide +kernel
theorem dL_law_665 : decode cL_law 665 = .ok (.iconst 3, 1) := by decide +kernel
theorem dL_law_666 : decode cL_law 666 = .ok (.iadd, 1) := by decide +kernel
theorem dL_law_667 : decode cL_law 667 = .ok (.iaload, 1) := by decide +kernel
theorem dL_law_668 : decode cL_law 668 = .ok (.invokevirtual 96, 3) := by decide +kernel
theorem dL_law_671 : decode cL_law 671 = .ok (.if_icmp .eq 186, 3) := by decide +kernel
theorem dL_law_674 : decode cL_law 674 = .ok (.iconst 0, 1) := by decide +kernel
theorem dL_law_675 : decode cL_law 675 = .ok (.ireturn, 1) := by decide +kernel
theorem dL_law_676 : decode cL_law 676 = .ok (.aload_n 1, 1) := by decide +kernel
theorem dL_law_677 : decode cL_law 677 = .ok (.invokevirtual 97, 3) := by decide +kernel
theorem dL_law_680 : decode cL_law 680 = .ok (.aload_n 2, 1) := by decide +kernel
theorem dL_law_681 : decode cL_law 681 = .ok (.invokevirtual 100, 3) := by decide +kernel
theorem dL_law_684 : decode cL_law 684 = .ok (.if_icmp .eq 173, 3) := by decide +kernel
theorem dL_law_687 : decode cL_law 687 = .ok (.iconst 0, 1) := by decide +kernel
theorem dL_law_688 : decode cL_law 688 = .ok (.ireturn, 1) := by decide +kernel
theorem dL_law_689 : decode cL_law 689 = .ok (.aload_n 1, 1) := by decide +kernel
theorem dL_law_690 : decode cL_law 690 = .ok (.aload_n 0, 1) := by decide +kernel
theorem dL_law_691 : decode cL_law 691 = .ok (.iload_n 3, 1) := by decide +kernel
theorem dL_law_692 : decode cL_law 692 = .ok (.iconst 1, 1) := by decide +kernel
theorem dL_law_693 : decode cL_law 693 = .ok (.iadd, 1) := by decide +kernel
theorem dL_law_694 : decode cL_law 694 = .ok (.iaload, 1) := by decide +kernel
theorem dL_law_695 : decode cL_law 695 = .ok (.aload_n 0, 1) := by decide +kernel
theorem dL_law_696 : decode cL_law 696 = .ok (.iload_n 3, 1) := by decide +kernel
theorem dL_law_697 : decode cL_law 697 = .ok (.iconst 2, 1) := by decide +kernel
theorem dL_law_698 : decode cL_law 698 = .ok (.iadd, 1) := by decide +kernel
theorem dL_law_699 : decode cL_law 699 = .ok (.iaload, 1) := by decide +kernel
theorem dL_law_700 : decode cL_law 700 = .ok (.invokevirtual 101, 3) := by decide +kernel
theorem dL_law_703 : decode cL_law 703 = .ok (.aload_n 2, 1) := by decide +kernel
theorem dL_law_704 : decode cL_law 704 = .ok (.aload_n 0, 1) := by decide +kernel
theorem dL_law_705 : decode cL_law 705 = .ok (.iload_n 3, 1) := by decide +kernel
theorem dL_law_706 : decode cL_law 706 = .ok (.iconst 1, 1) := by decide +kernel
theorem dL_law_707 : decode cL_law 707 = .ok (.iadd, 1) := by decide +kernel
theorem dL_law_708 : decode cL_law 708 = .ok (.iaload, 1) := by decide +kernel
theorem dL_law_709 : decode cL_law 709 = .ok (.aload_n 0, 1) := by decide +kernel
theorem dL_law_710 : decode cL_law 710 = .ok (.iload_n 3, 1) := by decide +kernel
theorem dL_law_711 : decode cL_law 711 = .ok (.iconst 2, 1) := by decide +kernel
theorem dL_law_712 : decode cL_law 712 = .ok (.iadd, 1) := by decide +kernel
theorem dL_law_713 : decode cL_law 713 = .ok (.iaload, 1) := by decide +kernel
theorem dL_law_714 : decode cL_law 714 = .ok (.invokevirtual 104, 3) := by decide +kernel
theorem dL_law_717 : decode cL_law 717 = .ok (.if_icmp .eq 140, 3) := by decide +kernel
theorem dL_law_720 : decode cL_law 720 = .ok (.iconst 0, 1) := by decide +kernel
theorem dL_law_721 : decode cL_law 721 = .ok (.ireturn, 1) := by decide +kernel
theorem dL_law_722 : decode cL_law 722 = .ok (.aload_n 1, 1) := by decide +kernel
theorem dL_law_723 : decode cL_law 723 = .ok (.aload_n 0, 1) := by decide +kernel
theorem dL_law_724 : decode cL_law 724 = .ok (.iload_n 3, 1) := by decide +kernel
theorem dL_law_725 : decode cL_law 725 = .ok (.iconst 1, 1) := by decide +kernel
theorem dL_law_726 : decode cL_law 726 = .ok (.iadd, 1) := by decide +kernel
theorem dL_law_727 : decode cL_law 727 = .ok (.iaload, 1) := by decide +kernel
theorem dL_law_728 : decode cL_law 728 = .ok (.aload_n 0, 1) := by decide +kernel
theorem dL_law_729 : decode cL_law 729 = .ok (.iload_n 3, 1) := by decide +kernel
theorem dL_law_730 : decode cL_law 730 = .ok (.iconst 2, 1) := by decide +kernel
theorem dL_law_731 : decode cL_law 731 = .ok (.iadd, 1) := by decide +kernel
theorem dL_law_732 : decode cL_law 732 = .ok (.iaload, 1) := by decide +kernel
theorem dL_law_733 : decode cL_law 733 = .ok (.aload_n 0, 1) := by decide +kernel
theorem dL_law_734 : decode cL_law 734 = .ok (.iload_n 3, 1) := by decide +kernel
theorem dL_law_735 : decode cL_law 735 = .ok (.iconst 3, 1) := by decide +kernel
theorem dL_law_736 : decode cL_law 736 = .ok (.iadd, 1) := by decide +kernel
theorem dL_law_737 : decode cL_law 737 = .ok (.iaload, 1) := by decide +kernel
theorem dL_law_738 : decode cL_law 738 = .ok (.invokevirtual 105, 3) := by decide +kernel
theorem dL_law_741 : decode cL_law 741 = .ok (.aload_n 2, 1) := by decide +kernel
theorem dL_law_742 : decode cL_law 742 = .ok (.aload_n 0, 1) := by decide +kernel
theorem dL_law_743 : decode cL_law 743 = .ok (.iload_n 3, 1) := by decide +kernel
theorem dL_law_744 : decode cL_law 744 = .ok (.iconst 1, 1) := by decide +kernel
theorem dL_law_745 : decode cL_law 745 = .ok (.iadd, 1) := by decide +kernel
theorem dL_law_746 : decode cL_law 746 = .ok (.iaload, 1) := by decide +kernel
theorem dL_law_747 : decode cL_law 747 = .ok (.aload_n 0, 1) := by decide +kernel
theorem dL_law_748 : decode cL_law 748 = .ok (.iload_n 3, 1) := by decide +kernel
theorem dL_law_749 : decode cL_law 749 = .ok (.iconst 2, 1) := by decide +kernel
theorem dL_law_750 : decode cL_law 750 = .ok (.iadd, 1) := by decide +kernel
theorem dL_law_751 : decode cL_law 751 = .ok (.iaload, 1) := by decide +kernel
theorem dL_law_752 : decode cL_law 752 = .ok (.aload_n 0, 1) := by decide +kernel
theorem dL_law_753 : decode cL_law 753 = .ok (.iload_n 3, 1) := by decide +kernel
theorem dL_law_754 : decode cL_law 754 = .ok (.iconst 3, 1) := by decide +kernel
theorem dL_law_755 : decode cL_law 755 = .ok (.iadd, 1) := by decide +kernel
theorem dL_law_756 : decode cL_law 756 = .ok (.iaload, 1) := by decide +kernel
theorem dL_law_757 : decode cL_law 757 = .ok (.invokevirtual 108, 3) := by decide +kernel
theorem dL_law_760 : decode cL_law 760 = .ok (.if_icmp .eq 97, 3) := by decide +kernel
theorem dL_law_763 : decode cL_law 763 = .ok (.iconst 0, 1) := by decide +kernel
theorem dL_law_764 : decode cL_law 764 = .ok (.ireturn, 1) := by decide +kernel
theorem dL_law_765 : decode cL_law 765 = .ok (.aload_n 1, 1) := by decide +kernel
theorem dL_law_766 : decode cL_law 766 = .ok (.aload_n 0, 1) := by decide +kernel
theorem dL_law_767 : decode cL_law 767 = .ok (.iload_n 3, 1) := by decide +kernel
theorem dL_law_768 : decode cL_law 768 = .ok (.iconst 1, 1) := by decide +kernel
theorem dL_law_769 : decode cL_law 769 = .ok (.iadd, 1) := by decide +kernel
theorem dL_law_770 : decode cL_law 770 = .ok (.iaload, 1) := by decide +kernel
theorem dL_law_771 : decode cL_law 771 = .ok (.aload_n 0, 1) := by decide +kernel
theorem dL_law_772 : decode cL_law 772 = .ok (.iload_n 3, 1) := by decide +kernel
theorem dL_law_773 : decode cL_law 773 = .ok (.iconst 2, 1) := by decide +kernel
theorem dL_law_774 : decode cL_law 774 = .ok (.iadd, 1) := by decide +kernel
theorem dL_law_775 : decode cL_law 775 = .ok (.iaload, 1) := by decide +kernel
theorem dL_law_776 : decode cL_law 776 = .ok (.aload_n 0, 1) := by decide +kernel
theorem dL_law_777 : decode cL_law 777 = .ok (.iload_n 3, 1) := by decide +kernel
theorem dL_law_778 : decode cL_law 778 = .ok (.iconst 3, 1) := by decide +kernel
theorem dL_law_779 : decode cL_law 779 = .ok (.iadd, 1) := by decide +kernel
theorem dL_law_780 : decode cL_law 780 = .ok (.iaload, 1) := by decide +kernel
theorem dL_law_781 : decode cL_law 781 = .ok (.invokevirtual 109, 3) := by decide +kernel
theorem dL_law_784 : decode cL_law 784 = .ok (.aload_n 2, 1) := by decide +kernel
theorem dL_law_785 : decode cL_law 785 = .ok (.aload_n 0, 1) := by decide +kernel
theorem dL_law_786 : decode cL_law 786 = .ok (.iload_n 3, 1) := by decide +kernel
theorem dL_law_787 : decode cL_law 787 = .ok (.iconst 1, 1) := by decide +kernel
theorem dL_law_788 : decode cL_law 788 = .ok (.iadd, 1) := by decide +kernel
theorem dL_law_789 : decode cL_law 789 = .ok (.iaload, 1) := by decide +kernel
theorem dL_law_790 : decode cL_law 790 = .ok (.aload_n 0, 1) := by decide +kernel
theorem dL_law_791 : decode cL_law 791 = .ok (.iload_n 3, 1) := by decide +kernel
theorem dL_law_792 : decode cL_law 792 = .ok (.iconst 2, 1) := by decide +kernel
theorem dL_law_793 : decode cL_law 793 = .ok (.iadd, 1) := by decide +kernel
theorem dL_law_794 : decode cL_law 794 = .ok (.iaload, 1) := by decide +kernel
theorem dL_law_795 : decode cL_law 795 = .ok (.aload_n 0, 1) := by decide +kernel
theorem dL_law_796 : decode cL_law 796 = .ok (.iload_n 3, 1) := by decide +kernel
theorem dL_law_797 : decode cL_law 797 = .ok (.iconst 3, 1) := by decide +kernel
theorem dL_law_798 : decode cL_law 798 = .ok (.iadd, 1) := by decide +kernel
theorem dL_law_799 : decode cL_law 799 = .ok (.iaload, 1) := by decide +kernel
theorem dL_law_800 : decode cL_law 800 = .ok (.invokevirtual 112, 3) := by decide +kernel
theorem dL_law_803 : decode cL_law 803 = .ok (.if_icmp .eq 54, 3) := by decide +kernel
theorem dL_law_806 : decode cL_law 806 = .ok (.iconst 0, 1) := by decide +kernel
theorem dL_law_807 : decode cL_law 807 = .ok (.ireturn, 1) := by decide +kernel
theorem dL_law_808 : decode cL_law 808 = .ok (.aload_n 1, 1) := by decide +kernel
theorem dL_law_809 : decode cL_law 809 = .ok (.invokevirtual 113, 3) := by decide +kernel
theorem dL_law_812 : decode cL_law 812 = .ok (.aload_n 2, 1) := by decide +kernel
theorem dL_law_813 : decode cL_law 813 = .ok (.invokevirtual 116, 3) := by decide +kernel
theorem dL_law_816 : decode cL_law 816 = .ok (.if_icmp .eq 41, 3) := by decide +kernel
theorem dL_law_819 : decode cL_law 819 = .ok (.iconst 0, 1) := by decide +kernel
theorem dL_law_820 : decode cL_law 820 = .ok (.ireturn, 1) := by decide +kernel
theorem dL_law_821 : decode cL_law 821 = .ok (.aload_n 1, 1) := by decide +kernel
theorem dL_law_822 : decode cL_law 822 = .ok (.invokevirtual 117, 3) := by decide +kernel
theorem dL_law_825 : decode cL_law 825 = .ok (.aload_n 2, 1) := by decide +kernel
theorem dL_law_826 : decode cL_law 826 = .ok (.invokevirtual 120, 3) := by decide +kernel
theorem dL_law_829 : decode cL_law 829 = .ok (.if_icmp .eq 28, 3) := by decide +kernel
theorem dL_law_832 : decode cL_law 832 = .ok (.iconst 0, 1) := by decide +kernel
theorem dL_law_833 : decode cL_law 833 = .ok (.ireturn, 1) := by decide +kernel
theorem dL_law_834 : decode cL_law 834 = .ok (.aload_n 1, 1) := by decide +kernel
theorem dL_law_835 : decode cL_law 835 = .ok (.aload_n 0, 1) := by decide +kernel
theorem dL_law_836 : decode cL_law 836 = .ok (.iload_n 3, 1) := by decide +kernel
theorem dL_law_837 : decode cL_law 837 = .ok (.iconst 1, 1) := by decide +kernel
theorem dL_law_838 : decode cL_law 838 = .ok (.iadd, 1) := by decide +kernel
theorem dL_law_839 : decode cL_law 839 = .ok (.iaload, 1) := by decide +kernel
theorem dL_law_840 : decode cL_law 840 = .ok (.invokevirtual 121, 3) := by decide +kernel
theorem dL_law_843 : decode cL_law 843 = .ok (.aload_n 2, 1) := by decide +kernel
theorem dL_law_844 : decode cL_law 844 = .ok (.aload_n 0, 1) := by decide +kernel
theorem dL_law_845 : decode cL_law 845 = .ok (.iload_n 3, 1) := by decide +kernel
theorem dL_law_846 : decode cL_law 846 = .ok (.iconst 1, 1) := by decide +kernel
theorem dL_law_847 : decode cL_law 847 = .ok (.iadd, 1) := by decide +kernel
theorem dL_law_848 : decode cL_law 848 = .ok (.iaload, 1) := by decide +kernel
theorem dL_law_849 : decode cL_law 849 = .ok (.invokevirtual 124, 3) := by decide +kernel
theorem dL_law_852 : decode cL_law 852 = .ok (.if_icmp .eq 5, 3) := by decide +kernel
theorem dL_law_855 : decode cL_law 855 = .ok (.iconst 0, 1) := by decide +kernel
theorem dL_law_856 : decode cL_law 856 = .ok (.ireturn, 1) := by decide +kernel
theorem dL_law_857 : decode cL_law 857 = .ok (.iinc 3 4, 3) := by decide +kernel
theorem dL_law_860 : decode cL_law 860 = .ok (.goto (-842), 3) := by decide +kernel
theorem dL_law_863 : decode cL_law 863 = .ok (.iconst 1, 1) := by decide +kernel
theorem dL_law_864 : decode cL_law 864 = .ok (.ireturn, 1) := by decide +kernel
abbrev vwCl : List vw_C := [(RX0, TX0, 12), (RX1, TX1, 2), (RX2, TX2, 3), (RX3, TX3, 4), (RX4, TX4, 5), (RX5, TX5, 10), (RX6, TX6, 24)]
