def RX0 : String := "ColdStore$Air"
def TX0 : u_T := fun k => match k with
  | 0 => ("ColdStore$Air", "base", "I", false)
  | _ => ("ColdStore$Air", "swing", "I", false)
def tyX0 : Nat → FieldType := fun k => match k with
  | 0 => .int
  | _ => .int
abbrev wsX00 : List Cond := u_ws RX0 TX0 2
theorem nmX0 : ∀ a, a < 2 → ∀ b, b < 2 → a ≠ b → (TX0 a).2.1 ≠ (TX0 b).2.1 := by decide +kernel
theorem tyX0_ok : ∀ k, k < 2 → parseFieldDescriptor (TX0 k).2.2.1 = some (tyX0 k) := by decide +kernel
abbrev cX0_init : ByteArray := prog_2_method_1_code
def yX0_init : MethodName := ⟨RX0, "<init>", "()V"⟩
abbrev cX0_temperatureAt : ByteArray := prog_2_method_2_code
def yX0_temperatureAt : MethodName := ⟨RX0, "temperatureAt", "(I)I"⟩
def RX1 : String := "ColdStore$Machine"
def TX1 : u_T := fun k => match k with
  | 0 => ("ColdStore$Machine", "power", "I", true)
  | 1 => ("ColdStore$Machine", "state", "I", false)
  | 2 => ("ColdStore$Machine", "hoursLeft", "I", false)
  | 3 => ("ColdStore$Machine", "frost", "I", false)
  | _ => ("ColdStore$Machine", "energy", "I", false)
def tyX1 : Nat → FieldType := fun k => match k with
  | 0 => .int
  | 1 => .int
  | 2 => .int
  | 3 => .int
  | _ => .int
abbrev wsX10 : List Cond := u_ws RX1 TX1 5
theorem nmX1 : ∀ a, a < 5 → ∀ b, b < 5 → a ≠ b → (TX1 a).2.1 ≠ (TX1 b).2.1 := by decide +kernel
theorem tyX1_ok : ∀ k, k < 5 → parseFieldDescriptor (TX1 k).2.2.1 = some (tyX1 k) := by decide +kernel
abbrev cX1_init : ByteArray := prog_3_method_1_code
def yX1_init : MethodName := ⟨RX1, "<init>", "(I)V"⟩
abbrev cX1_beginDefrosting : ByteArray := prog_3_method_2_code
def yX1_beginDefrosting : MethodName := ⟨RX1, "beginDefrosting", "()V"⟩
abbrev cX1_beginHour : ByteArray := prog_3_method_3_code
def yX1_beginHour : MethodName := ⟨RX1, "beginHour", "(IZ)V"⟩
abbrev cX1_defrostOneHour : ByteArray := prog_3_method_4_code
def yX1_defrostOneHour : MethodName := ⟨RX1, "defrostOneHour", "()V"⟩
abbrev cX1_warmthOfHour : ByteArray := prog_3_method_5_code
def yX1_warmthOfHour : MethodName := ⟨RX1, "warmthOfHour", "()I"⟩
abbrev cX1_useEnergy : ByteArray := prog_3_method_6_code
def yX1_useEnergy : MethodName := ⟨RX1, "useEnergy", "()I"⟩
def RX2 : String := "ColdStore$Pallet"
def TX2 : u_T := fun k => match k with
  | 0 => ("ColdStore$Pallet", "product", "LColdStore$Product;", true)
  | 1 => ("ColdStore$Pallet", "room", "LColdStore$Room;", false)
  | 2 => ("ColdStore$Pallet", "temperature", "I", false)
  | 3 => ("ColdStore$Pallet", "age", "I", false)
  | 4 => ("ColdStore$Pallet", "rememberedTemperature", "I", false)
  | _ => ("ColdStore$Pallet", "rememberedAge", "I", false)
def tyX2 : Nat → FieldType := fun k => match k with
  | 0 => .object "ColdStore$Product"
  | 1 => .object "ColdStore$Room"
  | 2 => .int
  | 3 => .int
  | 4 => .int
  | _ => .int
abbrev wsX20 : List Cond := u_ws RX2 TX2 6
theorem nmX2 : ∀ a, a < 6 → ∀ b, b < 6 → a ≠ b → (TX2 a).2.1 ≠ (TX2 b).2.1 := by decide +kernel
theorem tyX2_ok : ∀ k, k < 6 → parseFieldDescriptor (TX2 k).2.2.1 = some (tyX2 k) := by decide +kernel
abbrev cX2_init : ByteArray := prog_4_method_1_code
def yX2_init : MethodName := ⟨RX2, "<init>", "(LColdStore$Product;I)V"⟩
abbrev cX2_fact : ByteArray := prog_4_method_2_code
def yX2_fact : MethodName := ⟨RX2, "fact", "(I)I"⟩
abbrev cX2_isHere : ByteArray := prog_4_method_3_code
def yX2_isHere : MethodName := ⟨RX2, "isHere", "()Z"⟩
abbrev cX2_isHereWith : ByteArray := prog_4_method_4_code
def yX2_isHereWith : MethodName := ⟨RX2, "isHereWith", "(LColdStore$Product;)Z"⟩
abbrev cX2_left : ByteArray := prog_4_method_5_code
def yX2_left : MethodName := ⟨RX2, "left", "()I"⟩
abbrev cX2_isSpoiled : ByteArray := prog_4_method_6_code
def yX2_isSpoiled : MethodName := ⟨RX2, "isSpoiled", "()Z"⟩
abbrev cX2_adaptTo : ByteArray := prog_4_method_7_code
def yX2_adaptTo : MethodName := ⟨RX2, "adaptTo", "(I)V"⟩
def RX3 : String := "ColdStore$Product"
def TX3 : u_T := fun k => match k with
  | 0 => ("ColdStore$Product", "number", "I", true)
  | 1 => ("ColdStore$Product", "low", "I", true)
  | 2 => ("ColdStore$Product", "high", "I", true)
  | 3 => ("ColdStore$Product", "life", "I", true)
  | _ => ("ColdStore$Product", "smell", "I", true)
def tyX3 : Nat → FieldType := fun k => match k with
  | 0 => .int
  | 1 => .int
  | 2 => .int
  | 3 => .int
  | _ => .int
abbrev wsX30 : List Cond := u_ws RX3 TX3 5
theorem nmX3 : ∀ a, a < 5 → ∀ b, b < 5 → a ≠ b → (TX3 a).2.1 ≠ (TX3 b).2.1 := by decide +kernel
theorem tyX3_ok : ∀ k, k < 5 → parseFieldDescriptor (TX3 k).2.2.1 = some (tyX3 k) := by decide +kernel
abbrev cX3_init : ByteArray := prog_5_method_1_code
def yX3_init : MethodName := ⟨RX3, "<init>", "(IIIII)V"⟩
abbrev cX3_distanceFromSuiting : ByteArray := prog_5_method_2_code
def yX3_distanceFromSuiting : MethodName := ⟨RX3, "distanceFromSuiting", "(I)I"⟩
abbrev cX3_goesWith : ByteArray := prog_5_method_3_code
def yX3_goesWith : MethodName := ⟨RX3, "goesWith", "(LColdStore$Product;)Z"⟩
abbrev cX3_disturbs : ByteArray := prog_5_method_4_code
def yX3_disturbs : MethodName := ⟨RX3, "disturbs", "(LColdStore$Product;)Z"⟩
def RX4 : String := "ColdStore$Room"
def TX4 : u_T := fun k => match k with
  | 0 => ("ColdStore$Room", "number", "I", true)
  | 1 => ("ColdStore$Room", "wall", "I", true)
  | 2 => ("ColdStore$Room", "machine", "LColdStore$Machine;", true)
  | 3 => ("ColdStore$Room", "places", "[LColdStore$Pallet;", true)
  | 4 => ("ColdStore$Room", "aim", "I", false)
  | 5 => ("ColdStore$Room", "isThrifty", "Z", false)
  | 6 => ("ColdStore$Room", "temperature", "I", false)
  | 7 => ("ColdStore$Room", "warmHours", "I", false)
  | 8 => ("ColdStore$Room", "rememberedMachine", "LColdStore$Machine;", true)
  | 9 => ("ColdStore$Room", "rememberedTemperature", "I", false)
  | _ => ("ColdStore$Room", "rememberedWarmHours", "I", false)
def tyX4 : Nat → FieldType := fun k => match k with
  | 0 => .int
  | 1 => .int
  | 2 => .object "ColdStore$Machine"
  | 3 => .array (.object "ColdStore$Pallet")
  | 4 => .int
  | 5 => .boolean
  | 6 => .int
  | 7 => .int
  | 8 => .object "ColdStore$Machine"
  | 9 => .int
  | _ => .int
abbrev wsX40 : List Cond := u_ws RX4 TX4 11
theorem nmX4 : ∀ a, a < 11 → ∀ b, b < 11 → a ≠ b → (TX4 a).2.1 ≠ (TX4 b).2.1 := by decide +kernel
theorem tyX4_ok : ∀ k, k < 11 → parseFieldDescriptor (TX4 k).2.2.1 = some (tyX4 k) := by decide +kernel
abbrev cX4_init : ByteArray := prog_6_method_1_code
def yX4_init : MethodName := ⟨RX4, "<init>", "(IIIII)V"⟩
abbrev cX4_fact : ByteArray := prog_6_method_2_code
def yX4_fact : MethodName := ⟨RX4, "fact", "(I)I"⟩
abbrev cX4_freePlaces : ByteArray := prog_6_method_3_code
def yX4_freePlaces : MethodName := ⟨RX4, "freePlaces", "()I"⟩
abbrev cX4_reasonAgainst : ByteArray := prog_6_method_4_code
def yX4_reasonAgainst : MethodName := ⟨RX4, "reasonAgainst", "(LColdStore$Product;)I"⟩
abbrev cX4_accepts : ByteArray := prog_6_method_5_code
def yX4_accepts : MethodName := ⟨RX4, "accepts", "(LColdStore$Product;)Z"⟩
abbrev cX4_isBetterFor : ByteArray := prog_6_method_6_code
def yX4_isBetterFor : MethodName := ⟨RX4, "isBetterFor", "(LColdStore$Product;LColdStore$Room;)Z"⟩
abbrev cX4_take : ByteArray := prog_6_method_7_code
def yX4_take : MethodName := ⟨RX4, "take", "(LColdStore$Pallet;)V"⟩
abbrev cX4_release : ByteArray := prog_6_method_8_code
def yX4_release : MethodName := ⟨RX4, "release", "(LColdStore$Pallet;)V"⟩
abbrev cX4_passHour : ByteArray := prog_6_method_9_code
def yX4_passHour : MethodName := ⟨RX4, "passHour", "(IZ)I"⟩
abbrev cX4_warmthOfPallets : ByteArray := prog_6_method_10_code
def yX4_warmthOfPallets : MethodName := ⟨RX4, "warmthOfPallets", "()I"⟩
def RX5 : String := "ColdStore$Tariff"
def TX5 : u_T := fun k => match k with
  | 0 => ("ColdStore$Tariff", "prices", "[I", true)
  | _ => ("ColdStore$Tariff", "lowest", "I", false)
def tyX5 : Nat → FieldType := fun k => match k with
  | 0 => .array .int
  | _ => .int
abbrev wsX50 : List Cond := u_ws RX5 TX5 2
theorem nmX5 : ∀ a, a < 2 → ∀ b, b < 2 → a ≠ b → (TX5 a).2.1 ≠ (TX5 b).2.1 := by decide +kernel
theorem tyX5_ok : ∀ k, k < 2 → parseFieldDescriptor (TX5 k).2.2.1 = some (tyX5 k) := by decide +kernel
abbrev cX5_init : ByteArray := prog_7_method_1_code
def yX5_init : MethodName := ⟨RX5, "<init>", "()V"⟩
abbrev cX5_charge : ByteArray := prog_7_method_2_code
def yX5_charge : MethodName := ⟨RX5, "charge", "(III)V"⟩
abbrev cX5_priceAt : ByteArray := prog_7_method_3_code
def yX5_priceAt : MethodName := ⟨RX5, "priceAt", "(I)I"⟩
abbrev cX5_isLowestAt : ByteArray := prog_7_method_4_code
def yX5_isLowestAt : MethodName := ⟨RX5, "isLowestAt", "(I)Z"⟩
def RX6 : String := "ColdStore"
def TX6 : u_T := fun k => match k with
  | 0 => ("ColdStore", "air", "LColdStore$Air;", true)
  | 1 => ("ColdStore", "tariff", "LColdStore$Tariff;", true)
  | 2 => ("ColdStore", "products", "[LColdStore$Product;", true)
  | 3 => ("ColdStore", "rooms", "[LColdStore$Room;", true)
  | 4 => ("ColdStore", "pallets", "[LColdStore$Pallet;", true)
  | 5 => ("ColdStore", "productCount", "I", false)
  | 6 => ("ColdStore", "roomCount", "I", false)
  | 7 => ("ColdStore", "palletCount", "I", false)
  | 8 => ("ColdStore", "shippedCount", "I", false)
  | 9 => ("ColdStore", "time", "I", false)
  | _ => ("ColdStore", "paid", "J", false)
def tyX6 : Nat → FieldType := fun k => match k with
  | 0 => .object "ColdStore$Air"
  | 1 => .object "ColdStore$Tariff"
  | 2 => .array (.object "ColdStore$Product")
  | 3 => .array (.object "ColdStore$Room")
  | 4 => .array (.object "ColdStore$Pallet")
  | 5 => .int
  | 6 => .int
  | 7 => .int
  | 8 => .int
  | 9 => .int
  | _ => .long
abbrev wsX60 : List Cond := u_ws RX6 TX6 11
theorem nmX6 : ∀ a, a < 11 → ∀ b, b < 11 → a ≠ b → (TX6 a).2.1 ≠ (TX6 b).2.1 := by decide +kernel
theorem tyX6_ok : ∀ k, k < 11 → parseFieldDescriptor (TX6 k).2.2.1 = some (tyX6 k) := by decide +kernel
abbrev cX6_init : ByteArray := prog_1_method_1_code
def yX6_init : MethodName := ⟨RX6, "<init>", "()V"⟩
abbrev cX6_setOutside : ByteArray := prog_1_method_2_code
def yX6_setOutside : MethodName := ⟨RX6, "setOutside", "(II)I"⟩
abbrev cX6_setPrice : ByteArray := prog_1_method_4_code
def yX6_setPrice : MethodName := ⟨RX6, "setPrice", "(III)I"⟩
abbrev cX6_addProduct : ByteArray := prog_1_method_5_code
def yX6_addProduct : MethodName := ⟨RX6, "addProduct", "(IIII)I"⟩
abbrev cX6_addRoom : ByteArray := prog_1_method_6_code
def yX6_addRoom : MethodName := ⟨RX6, "addRoom", "(IIII)I"⟩
abbrev cX6_setRoom : ByteArray := prog_1_method_7_code
def yX6_setRoom : MethodName := ⟨RX6, "setRoom", "(IIZ)I"⟩
abbrev cX6_defrost : ByteArray := prog_1_method_8_code
def yX6_defrost : MethodName := ⟨RX6, "defrost", "(I)I"⟩
abbrev cX6_room : ByteArray := prog_1_method_9_code
def yX6_room : MethodName := ⟨RX6, "room", "(II)I"⟩
abbrev cX6_arrive : ByteArray := prog_1_method_11_code
def yX6_arrive : MethodName := ⟨RX6, "arrive", "(III)I"⟩
abbrev cX6_pallet : ByteArray := prog_1_method_13_code
def yX6_pallet : MethodName := ⟨RX6, "pallet", "(II)I"⟩
abbrev cX6_bestRoom : ByteArray := prog_1_method_14_code
def yX6_bestRoom : MethodName := ⟨RX6, "bestRoom", "(I)I"⟩
abbrev cX6_ship : ByteArray := prog_1_method_15_code
def yX6_ship : MethodName := ⟨RX6, "ship", "(III)I"⟩
abbrev cX6_clear : ByteArray := prog_1_method_16_code
def yX6_clear : MethodName := ⟨RX6, "clear", "()I"⟩
abbrev cX6_count : ByteArray := prog_1_method_18_code
def yX6_count : MethodName := ⟨RX6, "count", "(I)I"⟩
abbrev cX6_tick : ByteArray := prog_1_method_19_code
def yX6_tick : MethodName := ⟨RX6, "tick", "(I)I"⟩
abbrev cX6_now : ByteArray := prog_1_method_22_code
def yX6_now : MethodName := ⟨RX6, "now", "()I"⟩
abbrev cX6_paid : ByteArray := prog_1_method_23_code
def yX6_paid : MethodName := ⟨RX6, "paid", "()J"⟩
abbrev cX6_requireWithin : ByteArray := prog_1_method_26_code
def yX6_requireWithin : MethodName := ⟨RX6, "requireWithin", "(III)V"⟩
abbrev cX6_requireFact : ByteArray := prog_1_method_27_code
def yX6_requireFact : MethodName := ⟨RX6, "requireFact", "(II)V"⟩
abbrev cX6_existingProduct : ByteArray := prog_1_method_28_code
def yX6_existingProduct : MethodName := ⟨RX6, "existingProduct", "(I)LColdStore$Product;"⟩
abbrev cX6_existingRoom : ByteArray := prog_1_method_29_code
def yX6_existingRoom : MethodName := ⟨RX6, "existingRoom", "(I)LColdStore$Room;"⟩
abbrev cX6_existingPallet : ByteArray := prog_1_method_30_code
def yX6_existingPallet : MethodName := ⟨RX6, "existingPallet", "(I)LColdStore$Pallet;"⟩
abbrev cX6_countOf : ByteArray := prog_1_method_31_code
def yX6_countOf : MethodName := ⟨RX6, "countOf", "(I)I"⟩
abbrev cX6_palletsHere : ByteArray := prog_1_method_32_code
def yX6_palletsHere : MethodName := ⟨RX6, "palletsHere", "()I"⟩
abbrev cX6_spoiledHere : ByteArray := prog_1_method_33_code
def yX6_spoiledHere : MethodName := ⟨RX6, "spoiledHere", "()I"⟩
abbrev cX6_nextToShip : ByteArray := prog_1_method_34_code
def yX6_nextToShip : MethodName := ⟨RX6, "nextToShip", "(LColdStore$Product;I)LColdStore$Pallet;"⟩
abbrev cX6_leave : ByteArray := prog_1_method_35_code
def yX6_leave : MethodName := ⟨RX6, "leave", "(LColdStore$Pallet;)V"⟩
abbrev cX6_passHourEverywhere : ByteArray := prog_1_method_36_code
def yX6_passHourEverywhere : MethodName := ⟨RX6, "passHourEverywhere", "()V"⟩
abbrev cX6_passHourIn : ByteArray := prog_1_method_37_code
def yX6_passHourIn : MethodName := ⟨RX6, "passHourIn", "(LColdStore$Room;I)I"⟩
def RX7 : String := "ColdStoreModel"
def TX7 : u_T := fun k => match k with
  | _ => ("", "", "", false)
def tyX7 : Nat → FieldType := fun k => match k with
  | _ => .int
abbrev wsX70 : List Cond := u_ws RX7 TX7 0
theorem nmX7 : ∀ a, a < 0 → ∀ b, b < 0 → a ≠ b → (TX7 a).2.1 ≠ (TX7 b).2.1 := by decide +kernel
theorem tyX7_ok : ∀ k, k < 0 → parseFieldDescriptor (TX7 k).2.2.1 = some (tyX7 k) := by decide +kernel
def RJ9 : String := "java/lang/Math"
def TJ9 : u_T := fun k => match k with
  | _ => ("", "", "", false)
def tyJ9 : Nat → FieldType := fun k => match k with
  | _ => .int
abbrev wsJ90 : List Cond := u_ws RJ9 TJ9 0
theorem nmJ9 : ∀ a, a < 0 → ∀ b, b < 0 → a ≠ b → (TJ9 a).2.1 ≠ (TJ9 b).2.1 := by decide +kernel
theorem tyJ9_ok : ∀ k, k < 0 → parseFieldDescriptor (TJ9 k).2.2.1 = some (tyJ9 k) := by decide +kernel
abbrev cJ9_floorMod_7cf53 : ByteArray := prog_14_method_50_code
def yJ9_floorMod_7cf53 : MethodName := ⟨RJ9, "floorMod", "(II)I"⟩
abbrev cJ9_abs_0f7a4 : ByteArray := prog_14_method_59_code
def yJ9_abs_0f7a4 : MethodName := ⟨RJ9, "abs", "(I)I"⟩
abbrev cJ9_min_7cf53 : ByteArray := prog_14_method_69_code
def yJ9_min_7cf53 : MethodName := ⟨RJ9, "min", "(II)I"⟩
def RJ0 : String := "java/lang/String"
def TJ0 : u_T := fun k => match k with
  | _ => ("", "", "", false)
def tyJ0 : Nat → FieldType := fun k => match k with
  | _ => .int
abbrev wsJ00 : List Cond := u_ws RJ0 TJ0 0
theorem nmJ0 : ∀ a, a < 0 → ∀ b, b < 0 → a ≠ b → (TJ0 a).2.1 ≠ (TJ0 b).2.1 := by decide +kernel
theorem tyJ0_ok : ∀ k, k < 0 → parseFieldDescriptor (TJ0 k).2.2.1 = some (tyJ0 k) := by decide +kernel
def RL : String := "ColdStoreLaw"
abbrev cL_below : ByteArray := method_2_code
def yL_below : MethodName := ⟨RL, "below", "(II)I"⟩
abbrev cL_cell : ByteArray := method_3_code
def yL_cell : MethodName := ⟨RL, "cell", "([II)I"⟩
abbrev cL_products : ByteArray := method_4_code
def yL_products : MethodName := ⟨RL, "products", "(LColdStore;[III[I)V"⟩
abbrev cL_go : ByteArray := method_5_code
def yL_go : MethodName := ⟨RL, "go", "([III)Z"⟩
abbrev cL_rooms : ByteArray := method_6_code
def yL_rooms : MethodName := ⟨RL, "rooms", "(LColdStore;[III[I)V"⟩
abbrev cL_law : ByteArray := code
def yL_law : MethodName := ⟨RL, "law", "([I)Z"⟩
abbrev vwCl : List vw_C := [(RX0, TX0, 2), (RX1, TX1, 5), (RX2, TX2, 6), (RX3, TX3, 5), (RX4, TX4, 11), (RX5, TX5, 2), (RX6, TX6, 11)]
