/-! ===== BEGIN printed: names, fields, word lists, decode rows ===== -/
def RX0 : String := "Keyterrace$Cell"
def TX0 : u_T := fun k => match k with
  | 0 => ("Keyterrace$Cell", "present", "Z", false)
  | 1 => ("Keyterrace$Cell", "stamped", "Z", false)
  | _ => ("Keyterrace$Cell", "value", "I", false)
def tyX0 : Nat → FieldType := fun k => match k with
  | 0 => .boolean
  | 1 => .boolean
  | _ => .int
abbrev wsX00 : List Cond := u_ws RX0 TX0 3
theorem nmX0 : ∀ a, a < 3 → ∀ b, b < 3 → a ≠ b → (TX0 a).2.1 ≠ (TX0 b).2.1 := by decide +kernel
theorem tyX0_ok : ∀ k, k < 3 → parseFieldDescriptor (TX0 k).2.2.1 = some (tyX0 k) := by decide +kernel
abbrev cX0_init : ByteArray := prog_2_method_1_code
def yX0_init : MethodName := ⟨RX0, "<init>", "()V"⟩
abbrev cX0_load : ByteArray := prog_2_method_2_code
def yX0_load : MethodName := ⟨RX0, "load", "(LKeyterrace$Entry;)V"⟩
abbrev cX0_apply : ByteArray := prog_2_method_3_code
def yX0_apply : MethodName := ⟨RX0, "apply", "(III)V"⟩
abbrev cX0_told : ByteArray := prog_2_method_4_code
def yX0_told : MethodName := ⟨RX0, "told", "()I"⟩
def RX1 : String := "Keyterrace$Change"
def TX1 : u_T := fun k => match k with
  | 0 => ("Keyterrace$Change", "kind", "I", false)
  | 1 => ("Keyterrace$Change", "low", "J", true)
  | 2 => ("Keyterrace$Change", "high", "J", true)
  | 3 => ("Keyterrace$Change", "value", "I", true)
  | _ => ("Keyterrace$Change", "place", "I", true)
def tyX1 : Nat → FieldType := fun k => match k with
  | 0 => .int
  | 1 => .long
  | 2 => .long
  | 3 => .int
  | _ => .int
abbrev wsX10 : List Cond := u_ws RX1 TX1 5
theorem nmX1 : ∀ a, a < 5 → ∀ b, b < 5 → a ≠ b → (TX1 a).2.1 ≠ (TX1 b).2.1 := by decide +kernel
theorem tyX1_ok : ∀ k, k < 5 → parseFieldDescriptor (TX1 k).2.2.1 = some (tyX1 k) := by decide +kernel
abbrev cX1_init : ByteArray := prog_3_method_1_code
def yX1_init : MethodName := ⟨RX1, "<init>", "(IJJII)V"⟩
abbrev cX1_isInOrder : ByteArray := prog_3_method_2_code
def yX1_isInOrder : MethodName := ⟨RX1, "isInOrder", "()Z"⟩
abbrev cX1_isRange : ByteArray := prog_3_method_3_code
def yX1_isRange : MethodName := ⟨RX1, "isRange", "()Z"⟩
abbrev cX1_saysAll : ByteArray := prog_3_method_4_code
def yX1_saysAll : MethodName := ⟨RX1, "saysAll", "()Z"⟩
abbrev cX1_covers : ByteArray := prog_3_method_5_code
def yX1_covers : MethodName := ⟨RX1, "covers", "(J)Z"⟩
def RX2 : String := "Keyterrace$Directory"
def TX2 : u_T := fun k => match k with
  | 0 => ("Keyterrace$Directory", "number", "I", true)
  | 1 => ("Keyterrace$Directory", "shortened", "I", true)
  | 2 => ("Keyterrace$Directory", "parent", "LKeyterrace$Directory;", false)
  | _ => ("Keyterrace$Directory", "name", "I", false)
def tyX2 : Nat → FieldType := fun k => match k with
  | 0 => .int
  | 1 => .int
  | 2 => .object "Keyterrace$Directory"
  | _ => .int
abbrev wsX20 : List Cond := u_ws RX2 TX2 4
theorem nmX2 : ∀ a, a < 4 → ∀ b, b < 4 → a ≠ b → (TX2 a).2.1 ≠ (TX2 b).2.1 := by decide +kernel
theorem tyX2_ok : ∀ k, k < 4 → parseFieldDescriptor (TX2 k).2.2.1 = some (tyX2 k) := by decide +kernel
abbrev cX2_init : ByteArray := prog_4_method_1_code
def yX2_init : MethodName := ⟨RX2, "<init>", "(ILKeyterrace$Directory;II)V"⟩
abbrev cX2_low : ByteArray := prog_4_method_2_code
def yX2_low : MethodName := ⟨RX2, "low", "()J"⟩
abbrev cX2_high : ByteArray := prog_4_method_3_code
def yX2_high : MethodName := ⟨RX2, "high", "()J"⟩
def RX3 : String := "Keyterrace$Entry"
def TX3 : u_T := fun k => match k with
  | 0 => ("Keyterrace$Entry", "key", "LKeyterrace$Key;", true)
  | 1 => ("Keyterrace$Entry", "version", "I", true)
  | 2 => ("Keyterrace$Entry", "before", "LKeyterrace$Entry;", true)
  | 3 => ("Keyterrace$Entry", "earlier", "LKeyterrace$Entry;", true)
  | 4 => ("Keyterrace$Entry", "present", "Z", false)
  | _ => ("Keyterrace$Entry", "value", "I", false)
def tyX3 : Nat → FieldType := fun k => match k with
  | 0 => .object "Keyterrace$Key"
  | 1 => .int
  | 2 => .object "Keyterrace$Entry"
  | 3 => .object "Keyterrace$Entry"
  | 4 => .boolean
  | _ => .int
abbrev wsX30 : List Cond := u_ws RX3 TX3 6
theorem nmX3 : ∀ a, a < 6 → ∀ b, b < 6 → a ≠ b → (TX3 a).2.1 ≠ (TX3 b).2.1 := by decide +kernel
theorem tyX3_ok : ∀ k, k < 6 → parseFieldDescriptor (TX3 k).2.2.1 = some (tyX3 k) := by decide +kernel
abbrev cX3_init : ByteArray := prog_5_method_1_code
def yX3_init : MethodName := ⟨RX3, "<init>", "(LKeyterrace$Key;ILKeyterrace$Entry;LKeyterrace$Entry;)V"⟩
abbrev cX3_alike : ByteArray := prog_5_method_2_code
def yX3_alike : MethodName := ⟨RX3, "alike", "(LKeyterrace$Entry;LKeyterrace$Entry;)Z"⟩
def RX4 : String := "Keyterrace$Key"
def TX4 : u_T := fun k => match k with
  | 0 => ("Keyterrace$Key", "code", "J", true)
  | _ => ("Keyterrace$Key", "latest", "LKeyterrace$Entry;", false)
def tyX4 : Nat → FieldType := fun k => match k with
  | 0 => .long
  | _ => .object "Keyterrace$Entry"
abbrev wsX40 : List Cond := u_ws RX4 TX4 2
theorem nmX4 : ∀ a, a < 2 → ∀ b, b < 2 → a ≠ b → (TX4 a).2.1 ≠ (TX4 b).2.1 := by decide +kernel
theorem tyX4_ok : ∀ k, k < 2 → parseFieldDescriptor (TX4 k).2.2.1 = some (tyX4 k) := by decide +kernel
abbrev cX4_init : ByteArray := prog_6_method_1_code
def yX4_init : MethodName := ⟨RX4, "<init>", "(J)V"⟩
abbrev cX4_entryIn : ByteArray := prog_6_method_2_code
def yX4_entryIn : MethodName := ⟨RX4, "entryIn", "(I)LKeyterrace$Entry;"⟩
abbrev cX4_isHeld : ByteArray := prog_6_method_3_code
def yX4_isHeld : MethodName := ⟨RX4, "isHeld", "()Z"⟩
abbrev cX4_turnedIn : ByteArray := prog_6_method_4_code
def yX4_turnedIn : MethodName := ⟨RX4, "turnedIn", "(I)Z"⟩
def RX5 : String := "Keyterrace$Part"
def TX5 : u_T := fun k => match k with
  | 0 => ("Keyterrace$Part", "low", "J", true)
  | 1 => ("Keyterrace$Part", "server", "I", true)
  | _ => ("Keyterrace$Part", "held", "I", false)
def tyX5 : Nat → FieldType := fun k => match k with
  | 0 => .long
  | 1 => .int
  | _ => .int
abbrev wsX50 : List Cond := u_ws RX5 TX5 3
theorem nmX5 : ∀ a, a < 3 → ∀ b, b < 3 → a ≠ b → (TX5 a).2.1 ≠ (TX5 b).2.1 := by decide +kernel
theorem tyX5_ok : ∀ k, k < 3 → parseFieldDescriptor (TX5 k).2.2.1 = some (tyX5 k) := by decide +kernel
abbrev cX5_init : ByteArray := prog_7_method_1_code
def yX5_init : MethodName := ⟨RX5, "<init>", "(JI)V"⟩
def RX6 : String := "Keyterrace$Parting"
def TX6 : u_T := fun k => match k with
  | _ => ("Keyterrace$Parting", "parts", "Ljava/util/ArrayList;", true)
def tyX6 : Nat → FieldType := fun k => match k with
  | _ => .object "java/util/ArrayList"
abbrev wsX60 : List Cond := u_ws RX6 TX6 1
theorem nmX6 : ∀ a, a < 1 → ∀ b, b < 1 → a ≠ b → (TX6 a).2.1 ≠ (TX6 b).2.1 := by decide +kernel
theorem tyX6_ok : ∀ k, k < 1 → parseFieldDescriptor (TX6 k).2.2.1 = some (tyX6 k) := by decide +kernel
abbrev cX6_init : ByteArray := prog_8_method_1_code
def yX6_init : MethodName := ⟨RX6, "<init>", "()V"⟩
abbrev cX6_split : ByteArray := prog_8_method_2_code
def yX6_split : MethodName := ⟨RX6, "split", "(Ljava/util/ArrayList;)V"⟩
abbrev cX6_endOf : ByteArray := prog_8_method_3_code
def yX6_endOf : MethodName := ⟨RX6, "endOf", "(IILjava/util/ArrayList;)I"⟩
abbrev cX6_join : ByteArray := prog_8_method_4_code
def yX6_join : MethodName := ⟨RX6, "join", "()V"⟩
abbrev cX6_idlest : ByteArray := prog_8_method_5_code
def yX6_idlest : MethodName := ⟨RX6, "idlest", "()I"⟩
abbrev cX6_countOf : ByteArray := prog_8_method_6_code
def yX6_countOf : MethodName := ⟨RX6, "countOf", "(I)I"⟩
def RX7 : String := "Keyterrace$Span"
def TX7 : u_T := fun k => match k with
  | 0 => ("Keyterrace$Span", "low", "J", true)
  | 1 => ("Keyterrace$Span", "high", "J", true)
  | _ => ("Keyterrace$Span", "since", "I", true)
def tyX7 : Nat → FieldType := fun k => match k with
  | 0 => .long
  | 1 => .long
  | _ => .int
abbrev wsX70 : List Cond := u_ws RX7 TX7 3
theorem nmX7 : ∀ a, a < 3 → ∀ b, b < 3 → a ≠ b → (TX7 a).2.1 ≠ (TX7 b).2.1 := by decide +kernel
theorem tyX7_ok : ∀ k, k < 3 → parseFieldDescriptor (TX7 k).2.2.1 = some (tyX7 k) := by decide +kernel
abbrev cX7_init : ByteArray := prog_9_method_1_code
def yX7_init : MethodName := ⟨RX7, "<init>", "(JJI)V"⟩
def RX8 : String := "Keyterrace$Store"
def TX8 : u_T := fun k => match k with
  | 0 => ("Keyterrace$Store", "keys", "Ljava/util/ArrayList;", true)
  | 1 => ("Keyterrace$Store", "wipes", "Ljava/util/ArrayList;", true)
  | 2 => ("Keyterrace$Store", "held", "Ljava/util/ArrayList;", true)
  | 3 => ("Keyterrace$Store", "cell", "LKeyterrace$Cell;", true)
  | 4 => ("Keyterrace$Store", "entries", "I", false)
  | 5 => ("Keyterrace$Store", "newest", "LKeyterrace$Entry;", false)
  | _ => ("Keyterrace$Store", "now", "I", false)
def tyX8 : Nat → FieldType := fun k => match k with
  | 0 => .object "java/util/ArrayList"
  | 1 => .object "java/util/ArrayList"
  | 2 => .object "java/util/ArrayList"
  | 3 => .object "Keyterrace$Cell"
  | 4 => .int
  | 5 => .object "Keyterrace$Entry"
  | _ => .int
abbrev wsX80 : List Cond := u_ws RX8 TX8 7
theorem nmX8 : ∀ a, a < 7 → ∀ b, b < 7 → a ≠ b → (TX8 a).2.1 ≠ (TX8 b).2.1 := by decide +kernel
theorem tyX8_ok : ∀ k, k < 7 → parseFieldDescriptor (TX8 k).2.2.1 = some (tyX8 k) := by decide +kernel
abbrev cX8_init : ByteArray := prog_10_method_1_code
def yX8_init : MethodName := ⟨RX8, "<init>", "()V"⟩
abbrev cX8_advance : ByteArray := prog_10_method_2_code
def yX8_advance : MethodName := ⟨RX8, "advance", "(I)V"⟩
abbrev cX8_placeFrom : ByteArray := prog_10_method_3_code
def yX8_placeFrom : MethodName := ⟨RX8, "placeFrom", "(J)I"⟩
abbrev cX8_find : ByteArray := prog_10_method_4_code
def yX8_find : MethodName := ⟨RX8, "find", "(J)LKeyterrace$Key;"⟩
abbrev cX8_keyFor : ByteArray := prog_10_method_5_code
def yX8_keyFor : MethodName := ⟨RX8, "keyFor", "(J)LKeyterrace$Key;"⟩
abbrev cX8_entryIn : ByteArray := prog_10_method_6_code
def yX8_entryIn : MethodName := ⟨RX8, "entryIn", "(JI)LKeyterrace$Entry;"⟩
abbrev cX8_valueNow : ByteArray := prog_10_method_7_code
def yX8_valueNow : MethodName := ⟨RX8, "valueNow", "(J)I"⟩
abbrev cX8_listHeld : ByteArray := prog_10_method_8_code
def yX8_listHeld : MethodName := ⟨RX8, "listHeld", "(JJ)Ljava/util/ArrayList;"⟩
abbrev cX8_applyInOrder : ByteArray := prog_10_method_9_code
def yX8_applyInOrder : MethodName := ⟨RX8, "applyInOrder", "(LKeyterrace$Change;)V"⟩
abbrev cX8_applyStamped : ByteArray := prog_10_method_10_code
def yX8_applyStamped : MethodName := ⟨RX8, "applyStamped", "(LKeyterrace$Change;)V"⟩
abbrev cX8_alter : ByteArray := prog_10_method_11_code
def yX8_alter : MethodName := ⟨RX8, "alter", "(IJI)V"⟩
abbrev cX8_wipe : ByteArray := prog_10_method_12_code
def yX8_wipe : MethodName := ⟨RX8, "wipe", "(JJ)V"⟩
abbrev cX8_write : ByteArray := prog_10_method_13_code
def yX8_write : MethodName := ⟨RX8, "write", "(LKeyterrace$Key;LKeyterrace$Cell;)V"⟩
abbrev cX8_countDiffering : ByteArray := prog_10_method_14_code
def yX8_countDiffering : MethodName := ⟨RX8, "countDiffering", "(I)I"⟩
abbrev cX8_restore : ByteArray := prog_10_method_15_code
def yX8_restore : MethodName := ⟨RX8, "restore", "(I)V"⟩
def RX9 : String := "Keyterrace$Transaction"
def TX9 : u_T := fun k => match k with
  | 0 => ("Keyterrace$Transaction", "changes", "Ljava/util/ArrayList;", true)
  | 1 => ("Keyterrace$Transaction", "readings", "Ljava/util/ArrayList;", true)
  | 2 => ("Keyterrace$Transaction", "begun", "Z", false)
  | 3 => ("Keyterrace$Transaction", "once", "Z", false)
  | 4 => ("Keyterrace$Transaction", "readsAt", "I", false)
  | 5 => ("Keyterrace$Transaction", "generation", "I", false)
  | 6 => ("Keyterrace$Transaction", "doneAt", "I", false)
  | _ => ("Keyterrace$Transaction", "kept", "I", false)
def tyX9 : Nat → FieldType := fun k => match k with
  | 0 => .object "java/util/ArrayList"
  | 1 => .object "java/util/ArrayList"
  | 2 => .boolean
  | 3 => .boolean
  | 4 => .int
  | 5 => .int
  | 6 => .int
  | _ => .int
abbrev wsX90 : List Cond := u_ws RX9 TX9 8
theorem nmX9 : ∀ a, a < 8 → ∀ b, b < 8 → a ≠ b → (TX9 a).2.1 ≠ (TX9 b).2.1 := by decide +kernel
theorem tyX9_ok : ∀ k, k < 8 → parseFieldDescriptor (TX9 k).2.2.1 = some (tyX9 k) := by decide +kernel
abbrev cX9_init : ByteArray := prog_11_method_1_code
def yX9_init : MethodName := ⟨RX9, "<init>", "()V"⟩
abbrev cX9_start : ByteArray := prog_11_method_2_code
def yX9_start : MethodName := ⟨RX9, "start", "(IIZ)V"⟩
abbrev cX9_keepKey : ByteArray := prog_11_method_3_code
def yX9_keepKey : MethodName := ⟨RX9, "keepKey", "(IJI)V"⟩
abbrev cX9_keepRange : ByteArray := prog_11_method_4_code
def yX9_keepRange : MethodName := ⟨RX9, "keepRange", "(JJ)V"⟩
abbrev cX9_keepStamped : ByteArray := prog_11_method_5_code
def yX9_keepStamped : MethodName := ⟨RX9, "keepStamped", "(JII)V"⟩
abbrev cX9_forgetStamped : ByteArray := prog_11_method_6_code
def yX9_forgetStamped : MethodName := ⟨RX9, "forgetStamped", "(J)V"⟩
abbrev cX9_look : ByteArray := prog_11_method_7_code
def yX9_look : MethodName := ⟨RX9, "look", "(LKeyterrace$Cell;JLKeyterrace$Entry;)V"⟩
abbrev cX9_owns : ByteArray := prog_11_method_8_code
def yX9_owns : MethodName := ⟨RX9, "owns", "(JJI)Z"⟩
abbrev cX9_putDown : ByteArray := prog_11_method_9_code
def yX9_putDown : MethodName := ⟨RX9, "putDown", "(JJ)V"⟩
abbrev cX9_putDownKey : ByteArray := prog_11_method_10_code
def yX9_putDownKey : MethodName := ⟨RX9, "putDownKey", "(J)V"⟩
def RX10 : String := "Keyterrace$Watch"
def TX10 : u_T := fun k => match k with
  | 0 => ("Keyterrace$Watch", "key", "LKeyterrace$Key;", true)
  | _ => ("Keyterrace$Watch", "firedBy", "I", false)
def tyX10 : Nat → FieldType := fun k => match k with
  | 0 => .object "Keyterrace$Key"
  | _ => .int
abbrev wsX100 : List Cond := u_ws RX10 TX10 2
theorem nmX10 : ∀ a, a < 2 → ∀ b, b < 2 → a ≠ b → (TX10 a).2.1 ≠ (TX10 b).2.1 := by decide +kernel
theorem tyX10_ok : ∀ k, k < 2 → parseFieldDescriptor (TX10 k).2.2.1 = some (tyX10 k) := by decide +kernel
abbrev cX10_init : ByteArray := prog_12_method_1_code
def yX10_init : MethodName := ⟨RX10, "<init>", "(LKeyterrace$Key;)V"⟩
def RX11 : String := "Keyterrace"
def TX11 : u_T := fun k => match k with
  | 0 => ("Keyterrace", "store", "LKeyterrace$Store;", true)
  | 1 => ("Keyterrace", "parting", "LKeyterrace$Parting;", true)
  | 2 => ("Keyterrace", "cell", "LKeyterrace$Cell;", true)
  | 3 => ("Keyterrace", "transactions", "Ljava/util/ArrayList;", true)
  | 4 => ("Keyterrace", "seen", "Ljava/util/ArrayList;", true)
  | 5 => ("Keyterrace", "directories", "Ljava/util/ArrayList;", true)
  | 6 => ("Keyterrace", "watches", "Ljava/util/ArrayList;", true)
  | 7 => ("Keyterrace", "marks", "[I", true)
  | 8 => ("Keyterrace", "markCount", "I", false)
  | 9 => ("Keyterrace", "generation", "I", false)
  | 10 => ("Keyterrace", "losing", "I", false)
  | 11 => ("Keyterrace", "lastMet", "I", false)
  | _ => ("Keyterrace", "lastDirectory", "I", false)
def tyX11 : Nat → FieldType := fun k => match k with
  | 0 => .object "Keyterrace$Store"
  | 1 => .object "Keyterrace$Parting"
  | 2 => .object "Keyterrace$Cell"
  | 3 => .object "java/util/ArrayList"
  | 4 => .object "java/util/ArrayList"
  | 5 => .object "java/util/ArrayList"
  | 6 => .object "java/util/ArrayList"
  | 7 => .array .int
  | 8 => .int
  | 9 => .int
  | 10 => .int
  | 11 => .int
  | _ => .int
abbrev wsX110 : List Cond := u_ws RX11 TX11 13
theorem nmX11 : ∀ a, a < 13 → ∀ b, b < 13 → a ≠ b → (TX11 a).2.1 ≠ (TX11 b).2.1 := by decide +kernel
theorem tyX11_ok : ∀ k, k < 13 → parseFieldDescriptor (TX11 k).2.2.1 = some (tyX11 k) := by decide +kernel
abbrev cX11_init : ByteArray := prog_1_method_1_code
def yX11_init : MethodName := ⟨RX11, "<init>", "()V"⟩
abbrev cX11_begin : ByteArray := prog_1_method_2_code
def yX11_begin : MethodName := ⟨RX11, "begin", "(IZ)I"⟩
abbrev cX11_get : ByteArray := prog_1_method_3_code
def yX11_get : MethodName := ⟨RX11, "get", "(IIIIZ)I"⟩
abbrev cX11_range : ByteArray := prog_1_method_4_code
def yX11_range : MethodName := ⟨RX11, "range", "(IIIZ)I"⟩
abbrev cX11_rangeAt : ByteArray := prog_1_method_5_code
def yX11_rangeAt : MethodName := ⟨RX11, "rangeAt", "(IIIII)I"⟩
abbrev cX11_change : ByteArray := prog_1_method_6_code
def yX11_change : MethodName := ⟨RX11, "change", "(IIIIII)I"⟩
abbrev cX11_clear : ByteArray := prog_1_method_7_code
def yX11_clear : MethodName := ⟨RX11, "clear", "(III)I"⟩
abbrev cX11_commit : ByteArray := prog_1_method_8_code
def yX11_commit : MethodName := ⟨RX11, "commit", "(I)I"⟩
abbrev cX11_why : ByteArray := prog_1_method_9_code
def yX11_why : MethodName := ⟨RX11, "why", "()I"⟩
abbrev cX11_lose : ByteArray := prog_1_method_10_code
def yX11_lose : MethodName := ⟨RX11, "lose", "(Z)V"⟩
abbrev cX11_recover : ByteArray := prog_1_method_11_code
def yX11_recover : MethodName := ⟨RX11, "recover", "()I"⟩
abbrev cX11_pass : ByteArray := prog_1_method_12_code
def yX11_pass : MethodName := ⟨RX11, "pass", "(I)I"⟩
abbrev cX11_value : ByteArray := prog_1_method_13_code
def yX11_value : MethodName := ⟨RX11, "value", "(IIII)I"⟩
abbrev cX11_packed : ByteArray := prog_1_method_14_code
def yX11_packed : MethodName := ⟨RX11, "packed", "(IIII)I"⟩
abbrev cX11_version : ByteArray := prog_1_method_15_code
def yX11_version : MethodName := ⟨RX11, "version", "()I"⟩
abbrev cX11_directory : ByteArray := prog_1_method_16_code
def yX11_directory : MethodName := ⟨RX11, "directory", "(II)I"⟩
abbrev cX11_move : ByteArray := prog_1_method_17_code
def yX11_move : MethodName := ⟨RX11, "move", "(III)V"⟩
abbrev cX11_remove : ByteArray := prog_1_method_18_code
def yX11_remove : MethodName := ⟨RX11, "remove", "(I)I"⟩
abbrev cX11_shortName : ByteArray := prog_1_method_19_code
def yX11_shortName : MethodName := ⟨RX11, "shortName", "(I)I"⟩
abbrev cX11_named : ByteArray := prog_1_method_20_code
def yX11_named : MethodName := ⟨RX11, "named", "(II)I"⟩
abbrev cX11_save : ByteArray := prog_1_method_21_code
def yX11_save : MethodName := ⟨RX11, "save", "(III)I"⟩
abbrev cX11_erase : ByteArray := prog_1_method_22_code
def yX11_erase : MethodName := ⟨RX11, "erase", "(II)I"⟩
abbrev cX11_build : ByteArray := prog_1_method_23_code
def yX11_build : MethodName := ⟨RX11, "build", "(II)I"⟩
abbrev cX11_off : ByteArray := prog_1_method_24_code
def yX11_off : MethodName := ⟨RX11, "off", "(I)I"⟩
abbrev cX11_rank : ByteArray := prog_1_method_25_code
def yX11_rank : MethodName := ⟨RX11, "rank", "(I)I"⟩
abbrev cX11_rankAnew : ByteArray := prog_1_method_26_code
def yX11_rankAnew : MethodName := ⟨RX11, "rankAnew", "(I)I"⟩
abbrev cX11_watch : ByteArray := prog_1_method_27_code
def yX11_watch : MethodName := ⟨RX11, "watch", "(III)I"⟩
abbrev cX11_fired : ByteArray := prog_1_method_28_code
def yX11_fired : MethodName := ⟨RX11, "fired", "(I)I"⟩
abbrev cX11_offer : ByteArray := prog_1_method_29_code
def yX11_offer : MethodName := ⟨RX11, "offer", "(II)I"⟩
abbrev cX11_take : ByteArray := prog_1_method_30_code
def yX11_take : MethodName := ⟨RX11, "take", "(I)I"⟩
abbrev cX11_finish : ByteArray := prog_1_method_31_code
def yX11_finish : MethodName := ⟨RX11, "finish", "(I)I"⟩
abbrev cX11_parts : ByteArray := prog_1_method_32_code
def yX11_parts : MethodName := ⟨RX11, "parts", "()I"⟩
abbrev cX11_part : ByteArray := prog_1_method_33_code
def yX11_part : MethodName := ⟨RX11, "part", "(II)I"⟩
abbrev cX11_mark : ByteArray := prog_1_method_34_code
def yX11_mark : MethodName := ⟨RX11, "mark", "()I"⟩
abbrev cX11_bringBack : ByteArray := prog_1_method_35_code
def yX11_bringBack : MethodName := ⟨RX11, "bringBack", "(I)I"⟩
abbrev cX11_transactionAt : ByteArray := prog_1_method_36_code
def yX11_transactionAt : MethodName := ⟨RX11, "transactionAt", "(I)LKeyterrace$Transaction;"⟩
abbrev cX11_directoryAt : ByteArray := prog_1_method_37_code
def yX11_directoryAt : MethodName := ⟨RX11, "directoryAt", "(I)LKeyterrace$Directory;"⟩
abbrev cX11_requireIndex : ByteArray := prog_1_method_38_code
def yX11_requireIndex : MethodName := ⟨RX11, "requireIndex", "(I)V"⟩
abbrev cX11_requireWorker : ByteArray := prog_1_method_39_code
def yX11_requireWorker : MethodName := ⟨RX11, "requireWorker", "(I)V"⟩
abbrev cX11_requireKey : ByteArray := prog_1_method_40_code
def yX11_requireKey : MethodName := ⟨RX11, "requireKey", "(III)V"⟩
abbrev cX11_requireRange : ByteArray := prog_1_method_41_code
def yX11_requireRange : MethodName := ⟨RX11, "requireRange", "(II)V"⟩
abbrev cX11_requireAboveLayers : ByteArray := prog_1_method_42_code
def yX11_requireAboveLayers : MethodName := ⟨RX11, "requireAboveLayers", "(I)V"⟩
abbrev cX11_requireName : ByteArray := prog_1_method_43_code
def yX11_requireName : MethodName := ⟨RX11, "requireName", "(I)V"⟩
abbrev cX11_requireRecord : ByteArray := prog_1_method_44_code
def yX11_requireRecord : MethodName := ⟨RX11, "requireRecord", "(I)V"⟩
abbrev cX11_requireField : ByteArray := prog_1_method_45_code
def yX11_requireField : MethodName := ⟨RX11, "requireField", "(I)V"⟩
abbrev cX11_requireBegun : ByteArray := prog_1_method_46_code
def yX11_requireBegun : MethodName := ⟨RX11, "requireBegun", "(LKeyterrace$Transaction;)V"⟩
abbrev cX11_requireRoom : ByteArray := prog_1_method_47_code
def yX11_requireRoom : MethodName := ⟨RX11, "requireRoom", "(LKeyterrace$Transaction;)V"⟩
abbrev cX11_isNumber : ByteArray := prog_1_method_48_code
def yX11_isNumber : MethodName := ⟨RX11, "isNumber", "(I)Z"⟩
abbrev cX11_isKey : ByteArray := prog_1_method_49_code
def yX11_isKey : MethodName := ⟨RX11, "isKey", "(III)Z"⟩
abbrev cX11_isRange : ByteArray := prog_1_method_50_code
def yX11_isRange : MethodName := ⟨RX11, "isRange", "(II)Z"⟩
abbrev cX11_lastPlace : ByteArray := prog_1_method_51_code
def yX11_lastPlace : MethodName := ⟨RX11, "lastPlace", "(II)I"⟩
abbrev cX11_digitOf : ByteArray := prog_1_method_52_code
def yX11_digitOf : MethodName := ⟨RX11, "digitOf", "(I)J"⟩
abbrev cX11_codeOf : ByteArray := prog_1_method_53_code
def yX11_codeOf : MethodName := ⟨RX11, "codeOf", "(III)J"⟩
abbrev cX11_codeOf_ : ByteArray := prog_1_method_54_code
def yX11_codeOf_ : MethodName := ⟨RX11, "codeOf", "(II)J"⟩
abbrev cX11_unitOf : ByteArray := prog_1_method_55_code
def yX11_unitOf : MethodName := ⟨RX11, "unitOf", "(I)J"⟩
abbrev cX11_numberOf : ByteArray := prog_1_method_56_code
def yX11_numberOf : MethodName := ⟨RX11, "numberOf", "(JI)I"⟩
abbrev cX11_withNumber : ByteArray := prog_1_method_57_code
def yX11_withNumber : MethodName := ⟨RX11, "withNumber", "(JII)J"⟩
abbrev cX11_lowOf : ByteArray := prog_1_method_58_code
def yX11_lowOf : MethodName := ⟨RX11, "lowOf", "(II)J"⟩
abbrev cX11_highOf : ByteArray := prog_1_method_59_code
def yX11_highOf : MethodName := ⟨RX11, "highOf", "(II)J"⟩
abbrev cX11_byteOf : ByteArray := prog_1_method_60_code
def yX11_byteOf : MethodName := ⟨RX11, "byteOf", "(II)I"⟩
abbrev cX11_listSeen : ByteArray := prog_1_method_61_code
def yX11_listSeen : MethodName := ⟨RX11, "listSeen", "(LKeyterrace$Transaction;JJ)V"⟩
abbrev cX11_keep : ByteArray := prog_1_method_62_code
def yX11_keep : MethodName := ⟨RX11, "keep", "(LKeyterrace$Transaction;IJI)V"⟩
abbrev cX11_toldUndone : ByteArray := prog_1_method_63_code
def yX11_toldUndone : MethodName := ⟨RX11, "toldUndone", "(LKeyterrace$Transaction;)I"⟩
abbrev cX11_settle : ByteArray := prog_1_method_64_code
def yX11_settle : MethodName := ⟨RX11, "settle", "(LKeyterrace$Transaction;)V"⟩
abbrev cX11_closeCommit : ByteArray := prog_1_method_65_code
def yX11_closeCommit : MethodName := ⟨RX11, "closeCommit", "()V"⟩
abbrev cX11_firstMet : ByteArray := prog_1_method_66_code
def yX11_firstMet : MethodName := ⟨RX11, "firstMet", "(LKeyterrace$Transaction;)I"⟩
abbrev cX11_keyMet : ByteArray := prog_1_method_67_code
def yX11_keyMet : MethodName := ⟨RX11, "keyMet", "(LKeyterrace$Transaction;LKeyterrace$Span;)Z"⟩
abbrev cX11_wipeMet : ByteArray := prog_1_method_68_code
def yX11_wipeMet : MethodName := ⟨RX11, "wipeMet", "(LKeyterrace$Transaction;LKeyterrace$Span;)Z"⟩
abbrev cX11_findDirectory : ByteArray := prog_1_method_69_code
def yX11_findDirectory : MethodName := ⟨RX11, "findDirectory", "(I)LKeyterrace$Directory;"⟩
abbrev cX11_childOf : ByteArray := prog_1_method_70_code
def yX11_childOf : MethodName := ⟨RX11, "childOf", "(LKeyterrace$Directory;I)LKeyterrace$Directory;"⟩
abbrev cX11_isWithin : ByteArray := prog_1_method_71_code
def yX11_isWithin : MethodName := ⟨RX11, "isWithin", "(LKeyterrace$Directory;LKeyterrace$Directory;)Z"⟩
abbrev cX11_freeShortName : ByteArray := prog_1_method_72_code
def yX11_freeShortName : MethodName := ⟨RX11, "freeShortName", "()I"⟩
abbrev cX11_hasShortName : ByteArray := prog_1_method_73_code
def yX11_hasShortName : MethodName := ⟨RX11, "hasShortName", "(I)Z"⟩
abbrev cX11_heldWithin : ByteArray := prog_1_method_74_code
def yX11_heldWithin : MethodName := ⟨RX11, "heldWithin", "(LKeyterrace$Directory;)I"⟩
abbrev cX11_wipeWithin : ByteArray := prog_1_method_75_code
def yX11_wipeWithin : MethodName := ⟨RX11, "wipeWithin", "(LKeyterrace$Directory;)V"⟩
abbrev cX11_indexGoesTo : ByteArray := prog_1_method_76_code
def yX11_indexGoesTo : MethodName := ⟨RX11, "indexGoesTo", "(I)I"⟩
abbrev cX11_readCounting : ByteArray := prog_1_method_77_code
def yX11_readCounting : MethodName := ⟨RX11, "readCounting", "(LKeyterrace$Transaction;J)I"⟩
abbrev cX11_readIndexes : ByteArray := prog_1_method_78_code
def yX11_readIndexes : MethodName := ⟨RX11, "readIndexes", "(LKeyterrace$Transaction;I)I"⟩
abbrev cX11_writeRecord : ByteArray := prog_1_method_79_code
def yX11_writeRecord : MethodName := ⟨RX11, "writeRecord", "(LKeyterrace$Transaction;II)I"⟩
abbrev cX11_takeAway : ByteArray := prog_1_method_80_code
def yX11_takeAway : MethodName := ⟨RX11, "takeAway", "(LKeyterrace$Transaction;III)V"⟩
abbrev cX11_takeAwayVersions : ByteArray := prog_1_method_81_code
def yX11_takeAwayVersions : MethodName := ⟨RX11, "takeAwayVersions", "(LKeyterrace$Transaction;I)V"⟩
abbrev cX11_putThere : ByteArray := prog_1_method_82_code
def yX11_putThere : MethodName := ⟨RX11, "putThere", "(LKeyterrace$Transaction;III)V"⟩
abbrev cX11_buildBehind : ByteArray := prog_1_method_83_code
def yX11_buildBehind : MethodName := ⟨RX11, "buildBehind", "(III)I"⟩
abbrev cX11_putNow : ByteArray := prog_1_method_84_code
def yX11_putNow : MethodName := ⟨RX11, "putNow", "(III)V"⟩
abbrev cX11_leaseOf : ByteArray := prog_1_method_85_code
def yX11_leaseOf : MethodName := ⟨RX11, "leaseOf", "(LKeyterrace$Key;)J"⟩
abbrev cX11_firstWork : ByteArray := prog_1_method_86_code
def yX11_firstWork : MethodName := ⟨RX11, "firstWork", "(I)LKeyterrace$Key;"⟩
abbrev cX11_holderOf : ByteArray := prog_1_method_87_code
def yX11_holderOf : MethodName := ⟨RX11, "holderOf", "(I)I"⟩
def RX12 : String := "KeyterraceModel"
def TX12 : u_T := fun k => match k with
  | _ => ("", "", "", false)
def tyX12 : Nat → FieldType := fun k => match k with
  | _ => .int
abbrev wsX120 : List Cond := u_ws RX12 TX12 0
theorem nmX12 : ∀ a, a < 0 → ∀ b, b < 0 → a ≠ b → (TX12 a).2.1 ≠ (TX12 b).2.1 := by decide +kernel
theorem tyX12_ok : ∀ k, k < 0 → parseFieldDescriptor (TX12 k).2.2.1 = some (tyX12 k) := by decide +kernel
def RJx145de : String := "java/io/Serializable"
def TJx145de : u_T := fun k => match k with
  | _ => ("", "", "", false)
def tyJx145de : Nat → FieldType := fun k => match k with
  | _ => .int
abbrev wsJx145de0 : List Cond := u_ws RJx145de TJx145de 0
theorem nmJx145de : ∀ a, a < 0 → ∀ b, b < 0 → a ≠ b → (TJx145de a).2.1 ≠ (TJx145de b).2.1 := by decide +kernel
theorem tyJx145de_ok : ∀ k, k < 0 → parseFieldDescriptor (TJx145de k).2.2.1 = some (tyJx145de k) := by decide +kernel
def RJ5 : String := "java/lang/AbstractStringBuilder"
def TJ5 : u_T := fun k => match k with
  | _ => ("", "", "", false)
def tyJ5 : Nat → FieldType := fun k => match k with
  | _ => .int
abbrev wsJ50 : List Cond := u_ws RJ5 TJ5 0
theorem nmJ5 : ∀ a, a < 0 → ∀ b, b < 0 → a ≠ b → (TJ5 a).2.1 ≠ (TJ5 b).2.1 := by decide +kernel
theorem tyJ5_ok : ∀ k, k < 0 → parseFieldDescriptor (TJ5 k).2.2.1 = some (tyJ5 k) := by decide +kernel
abbrev cJ5_init_d00df : ByteArray := prog_16_method_2_code
def yJ5_init_d00df : MethodName := ⟨RJ5, "<init>", "(I)V"⟩
abbrev cJ5_length_8abf5 : ByteArray := prog_16_method_6_code
def yJ5_length_8abf5 : MethodName := ⟨RJ5, "length", "()I"⟩
abbrev cJ5_ensureCapacityInternal_d00df : ByteArray := prog_16_method_9_code
def yJ5_ensureCapacityInternal_d00df : MethodName := ⟨RJ5, "ensureCapacityInternal", "(I)V"⟩
abbrev cJ5_newCapacity_0f7a4 : ByteArray := prog_16_method_10_code
def yJ5_newCapacity_0f7a4 : MethodName := ⟨RJ5, "newCapacity", "(I)I"⟩
abbrev cJ5_inflate_da8c8 : ByteArray := prog_16_method_11_code
def yJ5_inflate_da8c8 : MethodName := ⟨RJ5, "inflate", "()V"⟩
abbrev cJ5_append_cf1ce : ByteArray := prog_16_method_22_code
def yJ5_append_cf1ce : MethodName := ⟨RJ5, "append", "(Ljava/lang/String;)Ljava/lang/AbstractStringBuilder;"⟩
abbrev cJ5_appendNull_278bc : ByteArray := prog_16_method_26_code
def yJ5_appendNull_278bc : MethodName := ⟨RJ5, "appendNull", "()Ljava/lang/AbstractStringBuilder;"⟩
abbrev cJ5_append_c97b9 : ByteArray := prog_16_method_32_code
def yJ5_append_c97b9 : MethodName := ⟨RJ5, "append", "(I)Ljava/lang/AbstractStringBuilder;"⟩
abbrev cJ5_getValue_6d5f1 : ByteArray := prog_16_method_64_code
def yJ5_getValue_6d5f1 : MethodName := ⟨RJ5, "getValue", "()[B"⟩
abbrev cJ5_isLatin1_aae02 : ByteArray := prog_16_method_68_code
def yJ5_isLatin1_aae02 : MethodName := ⟨RJ5, "isLatin1", "()Z"⟩
abbrev cJ5_inflateIfNeededFor_a7421 : ByteArray := prog_16_method_71_code
def yJ5_inflateIfNeededFor_a7421 : MethodName := ⟨RJ5, "inflateIfNeededFor", "(Ljava/lang/String;)V"⟩
abbrev cJ5_putStringAt_47b60 : ByteArray := prog_16_method_73_code
def yJ5_putStringAt_47b60 : MethodName := ⟨RJ5, "putStringAt", "(ILjava/lang/String;)V"⟩
def RJx2cfe8 : String := "java/lang/Appendable"
def TJx2cfe8 : u_T := fun k => match k with
  | _ => ("", "", "", false)
def tyJx2cfe8 : Nat → FieldType := fun k => match k with
  | _ => .int
abbrev wsJx2cfe80 : List Cond := u_ws RJx2cfe8 TJx2cfe8 0
theorem nmJx2cfe8 : ∀ a, a < 0 → ∀ b, b < 0 → a ≠ b → (TJx2cfe8 a).2.1 ≠ (TJx2cfe8 b).2.1 := by decide +kernel
theorem tyJx2cfe8_ok : ∀ k, k < 0 → parseFieldDescriptor (TJx2cfe8 k).2.2.1 = some (tyJx2cfe8 k) := by decide +kernel
def RJx9f9b0 : String := "java/lang/CharSequence"
def TJx9f9b0 : u_T := fun k => match k with
  | _ => ("", "", "", false)
def tyJx9f9b0 : Nat → FieldType := fun k => match k with
  | _ => .int
abbrev wsJx9f9b00 : List Cond := u_ws RJx9f9b0 TJx9f9b0 0
theorem nmJx9f9b0 : ∀ a, a < 0 → ∀ b, b < 0 → a ≠ b → (TJx9f9b0 a).2.1 ≠ (TJx9f9b0 b).2.1 := by decide +kernel
theorem tyJx9f9b0_ok : ∀ k, k < 0 → parseFieldDescriptor (TJx9f9b0 k).2.2.1 = some (tyJx9f9b0 k) := by decide +kernel
def RJx8e188 : String := "java/lang/Cloneable"
def TJx8e188 : u_T := fun k => match k with
  | _ => ("", "", "", false)
def tyJx8e188 : Nat → FieldType := fun k => match k with
  | _ => .int
abbrev wsJx8e1880 : List Cond := u_ws RJx8e188 TJx8e188 0
theorem nmJx8e188 : ∀ a, a < 0 → ∀ b, b < 0 → a ≠ b → (TJx8e188 a).2.1 ≠ (TJx8e188 b).2.1 := by decide +kernel
theorem tyJx8e188_ok : ∀ k, k < 0 → parseFieldDescriptor (TJx8e188 k).2.2.1 = some (tyJx8e188 k) := by decide +kernel
def RJxb160c : String := "java/lang/Comparable"
def TJxb160c : u_T := fun k => match k with
  | _ => ("", "", "", false)
def tyJxb160c : Nat → FieldType := fun k => match k with
  | _ => .int
abbrev wsJxb160c0 : List Cond := u_ws RJxb160c TJxb160c 0
theorem nmJxb160c : ∀ a, a < 0 → ∀ b, b < 0 → a ≠ b → (TJxb160c a).2.1 ≠ (TJxb160c b).2.1 := by decide +kernel
theorem tyJxb160c_ok : ∀ k, k < 0 → parseFieldDescriptor (TJxb160c k).2.2.1 = some (tyJxb160c k) := by decide +kernel
def RJ6 : String := "java/lang/Integer"
def TJ6 : u_T := fun k => match k with
  | _ => ("", "", "", false)
def tyJ6 : Nat → FieldType := fun k => match k with
  | _ => .int
abbrev wsJ60 : List Cond := u_ws RJ6 TJ6 0
theorem nmJ6 : ∀ a, a < 0 → ∀ b, b < 0 → a ≠ b → (TJ6 a).2.1 ≠ (TJ6 b).2.1 := by decide +kernel
theorem tyJ6_ok : ∀ k, k < 0 → parseFieldDescriptor (TJ6 k).2.2.1 = some (tyJ6 k) := by decide +kernel
abbrev cJ6_getChars_ba4f3 : ByteArray := prog_25_method_12_code
def yJ6_getChars_ba4f3 : MethodName := ⟨RJ6, "getChars", "(II[B)I"⟩
abbrev cJ6_stringSize_0f7a4 : ByteArray := prog_25_method_13_code
def yJ6_stringSize_0f7a4 : MethodName := ⟨RJ6, "stringSize", "(I)I"⟩
def RJxab1ab : String := "java/lang/Iterable"
def TJxab1ab : u_T := fun k => match k with
  | _ => ("", "", "", false)
def tyJxab1ab : Nat → FieldType := fun k => match k with
  | _ => .int
abbrev wsJxab1ab0 : List Cond := u_ws RJxab1ab TJxab1ab 0
theorem nmJxab1ab : ∀ a, a < 0 → ∀ b, b < 0 → a ≠ b → (TJxab1ab a).2.1 ≠ (TJxab1ab b).2.1 := by decide +kernel
theorem tyJxab1ab_ok : ∀ k, k < 0 → parseFieldDescriptor (TJxab1ab k).2.2.1 = some (tyJxab1ab k) := by decide +kernel
def RJ9 : String := "java/lang/Math"
def TJ9 : u_T := fun k => match k with
  | _ => ("", "", "", false)
def tyJ9 : Nat → FieldType := fun k => match k with
  | _ => .int
abbrev wsJ90 : List Cond := u_ws RJ9 TJ9 0
theorem nmJ9 : ∀ a, a < 0 → ∀ b, b < 0 → a ≠ b → (TJ9 a).2.1 ≠ (TJ9 b).2.1 := by decide +kernel
theorem tyJ9_ok : ∀ k, k < 0 → parseFieldDescriptor (TJ9 k).2.2.1 = some (tyJ9 k) := by decide +kernel
abbrev cJ9_max_7cf53 : ByteArray := prog_27_method_65_code
def yJ9_max_7cf53 : MethodName := ⟨RJ9, "max", "(II)I"⟩
abbrev cJ9_max_f86c9 : ByteArray := prog_27_method_66_code
def yJ9_max_f86c9 : MethodName := ⟨RJ9, "max", "(JJ)J"⟩
abbrev cJ9_min_7cf53 : ByteArray := prog_27_method_69_code
def yJ9_min_7cf53 : MethodName := ⟨RJ9, "min", "(II)I"⟩
abbrev cJ9_min_f86c9 : ByteArray := prog_27_method_70_code
def yJ9_min_f86c9 : MethodName := ⟨RJ9, "min", "(JJ)J"⟩
def RJxd2413 : String := "java/lang/Number"
def TJxd2413 : u_T := fun k => match k with
  | _ => ("", "", "", false)
def tyJxd2413 : Nat → FieldType := fun k => match k with
  | _ => .int
abbrev wsJxd24130 : List Cond := u_ws RJxd2413 TJxd2413 0
theorem nmJxd2413 : ∀ a, a < 0 → ∀ b, b < 0 → a ≠ b → (TJxd2413 a).2.1 ≠ (TJxd2413 b).2.1 := by decide +kernel
theorem tyJxd2413_ok : ∀ k, k < 0 → parseFieldDescriptor (TJxd2413 k).2.2.1 = some (tyJxd2413 k) := by decide +kernel
def RJ0 : String := "java/lang/String"
def TJ0 : u_T := fun k => match k with
  | 0 => ("java/lang/String", "value", "[B", true)
  | 1 => ("java/lang/String", "coder", "B", true)
  | 2 => ("java/lang/String", "hash", "I", false)
  | _ => ("java/lang/String", "hashIsZero", "Z", false)
def tyJ0 : Nat → FieldType := fun k => match k with
  | 0 => .array .byte
  | 1 => .byte
  | 2 => .int
  | _ => .boolean
abbrev wsJ00 : List Cond := u_ws RJ0 TJ0 4
theorem nmJ0 : ∀ a, a < 4 → ∀ b, b < 4 → a ≠ b → (TJ0 a).2.1 ≠ (TJ0 b).2.1 := by decide +kernel
theorem tyJ0_ok : ∀ k, k < 4 → parseFieldDescriptor (TJ0 k).2.2.1 = some (tyJ0 k) := by decide +kernel
abbrev cJ0_init_81219 : ByteArray := prog_30_method_53_code
def yJ0_init_81219 : MethodName := ⟨RJ0, "<init>", "(Ljava/lang/StringBuilder;)V"⟩
abbrev cJ0_length_8abf5 : ByteArray := prog_30_method_54_code
def yJ0_length_8abf5 : MethodName := ⟨RJ0, "length", "()I"⟩
abbrev cJ0_getBytes_840e7 : ByteArray := prog_30_method_147_code
def yJ0_getBytes_840e7 : MethodName := ⟨RJ0, "getBytes", "([BIB)V"⟩
abbrev cJ0_init_db425 : ByteArray := prog_30_method_150_code
def yJ0_init_db425 : MethodName := ⟨RJ0, "<init>", "(Ljava/lang/AbstractStringBuilder;Ljava/lang/Void;)V"⟩
abbrev cJ0_coder_7d493 : ByteArray := prog_30_method_152_code
def yJ0_coder_7d493 : MethodName := ⟨RJ0, "coder", "()B"⟩
abbrev cJ0_checkBoundsOffCount_cabcc : ByteArray := prog_30_method_157_code
def yJ0_checkBoundsOffCount_cabcc : MethodName := ⟨RJ0, "checkBoundsOffCount", "(III)I"⟩
abbrev cJ0_checkBoundsBeginEnd_23922 : ByteArray := prog_30_method_158_code
def yJ0_checkBoundsBeginEnd_23922 : MethodName := ⟨RJ0, "checkBoundsBeginEnd", "(III)V"⟩
def RJ4 : String := "java/lang/StringBuilder"
def TJ4 : u_T := fun k => match k with
  | 0 => ("java/lang/AbstractStringBuilder", "value", "[B", false)
  | 1 => ("java/lang/AbstractStringBuilder", "coder", "B", false)
  | 2 => ("java/lang/AbstractStringBuilder", "maybeLatin1", "Z", false)
  | _ => ("java/lang/AbstractStringBuilder", "count", "I", false)
def tyJ4 : Nat → FieldType := fun k => match k with
  | 0 => .array .byte
  | 1 => .byte
  | 2 => .boolean
  | _ => .int
abbrev wsJ40 : List Cond := u_ws RJ4 TJ4 4
theorem nmJ4 : ∀ a, a < 4 → ∀ b, b < 4 → a ≠ b → (TJ4 a).2.1 ≠ (TJ4 b).2.1 := by decide +kernel
theorem tyJ4_ok : ∀ k, k < 4 → parseFieldDescriptor (TJ4 k).2.2.1 = some (tyJ4 k) := by decide +kernel
abbrev cJ4_init_da8c8 : ByteArray := prog_31_method_1_code
def yJ4_init_da8c8 : MethodName := ⟨RJ4, "<init>", "()V"⟩
abbrev cJ4_append_15ec4 : ByteArray := prog_31_method_7_code
def yJ4_append_15ec4 : MethodName := ⟨RJ4, "append", "(Ljava/lang/String;)Ljava/lang/StringBuilder;"⟩
abbrev cJ4_append_bf812 : ByteArray := prog_31_method_15_code
def yJ4_append_bf812 : MethodName := ⟨RJ4, "append", "(I)Ljava/lang/StringBuilder;"⟩
abbrev cJ4_toString_0e30d : ByteArray := prog_31_method_42_code
def yJ4_toString_0e30d : MethodName := ⟨RJ4, "toString", "()Ljava/lang/String;"⟩
abbrev cJ4_length_8abf5 : ByteArray := prog_31_method_93_code
def yJ4_length_8abf5 : MethodName := ⟨RJ4, "length", "()I"⟩
def RJ1 : String := "java/lang/StringLatin1"
def TJ1 : u_T := fun k => match k with
  | _ => ("", "", "", false)
def tyJ1 : Nat → FieldType := fun k => match k with
  | _ => .int
abbrev wsJ10 : List Cond := u_ws RJ1 TJ1 0
theorem nmJ1 : ∀ a, a < 0 → ∀ b, b < 0 → a ≠ b → (TJ1 a).2.1 ≠ (TJ1 b).2.1 := by decide +kernel
theorem tyJ1_ok : ∀ k, k < 0 → parseFieldDescriptor (TJ1 k).2.2.1 = some (tyJ1 k) := by decide +kernel
abbrev cJ1_inflate_0e8fd : ByteArray := prog_32_method_50_code
def yJ1_inflate_0e8fd : MethodName := ⟨RJ1, "inflate", "([BI[BII)V"⟩
def RJ2 : String := "java/lang/StringUTF16"
def TJ2 : u_T := fun k => match k with
  | _ => ("", "", "", false)
def tyJ2 : Nat → FieldType := fun k => match k with
  | _ => .int
abbrev wsJ20 : List Cond := u_ws RJ2 TJ2 0
theorem nmJ2 : ∀ a, a < 0 → ∀ b, b < 0 → a ≠ b → (TJ2 a).2.1 ≠ (TJ2 b).2.1 := by decide +kernel
theorem tyJ2_ok : ∀ k, k < 0 → parseFieldDescriptor (TJ2 k).2.2.1 = some (tyJ2 k) := by decide +kernel
abbrev cJ2_newBytesFor_77867 : ByteArray := prog_33_method_2_code
def yJ2_newBytesFor_77867 : MethodName := ⟨RJ2, "newBytesFor", "(I)[B"⟩
abbrev cJ2_newBytesLength_0f7a4 : ByteArray := prog_33_method_3_code
def yJ2_newBytesLength_0f7a4 : MethodName := ⟨RJ2, "newBytesLength", "(I)I"⟩
abbrev cJ2_putChar_b72d1 : ByteArray := prog_33_method_4_code
def yJ2_putChar_b72d1 : MethodName := ⟨RJ2, "putChar", "([BII)V"⟩
abbrev cJ2_getChar_3b067 : ByteArray := prog_33_method_5_code
def yJ2_getChar_3b067 : MethodName := ⟨RJ2, "getChar", "([BI)C"⟩
abbrev cJ2_length_9d52b : ByteArray := prog_33_method_6_code
def yJ2_length_9d52b : MethodName := ⟨RJ2, "length", "([B)I"⟩
abbrev cJ2_coderFromArrayLen_85cad : ByteArray := prog_33_method_15_code
def yJ2_coderFromArrayLen_85cad : MethodName := ⟨RJ2, "coderFromArrayLen", "([BI)B"⟩
abbrev cJ2_compress_39247 : ByteArray := prog_33_method_17_code
def yJ2_compress_39247 : MethodName := ⟨RJ2, "compress", "([BII)[B"⟩
abbrev cJ2_compress_5af95 : ByteArray := prog_33_method_22_code
def yJ2_compress_5af95 : MethodName := ⟨RJ2, "compress", "([BI[BII)I"⟩
abbrev cJ2_getChars_46870 : ByteArray := prog_33_method_77_code
def yJ2_getChars_46870 : MethodName := ⟨RJ2, "getChars", "(III[B)I"⟩
abbrev cJ2_putCharsAt_cd4e5 : ByteArray := prog_33_method_81_code
def yJ2_putCharsAt_cd4e5 : MethodName := ⟨RJ2, "putCharsAt", "([BICCCC)I"⟩
abbrev cJ2_inflate_0e8fd : ByteArray := prog_33_method_86_code
def yJ2_inflate_0e8fd : MethodName := ⟨RJ2, "inflate", "([BI[BII)V"⟩
abbrev cJ2_getChars_ba4f3 : ByteArray := prog_33_method_89_code
def yJ2_getChars_ba4f3 : MethodName := ⟨RJ2, "getChars", "(II[B)I"⟩
abbrev cJ2_checkBoundsBeginEnd_d044e : ByteArray := prog_33_method_93_code
def yJ2_checkBoundsBeginEnd_d044e : MethodName := ⟨RJ2, "checkBoundsBeginEnd", "(II[B)V"⟩
abbrev cJ2_checkBoundsOffCount_d044e : ByteArray := prog_33_method_94_code
def yJ2_checkBoundsOffCount_d044e : MethodName := ⟨RJ2, "checkBoundsOffCount", "(II[B)V"⟩
def RJ10 : String := "java/lang/System"
def TJ10 : u_T := fun k => match k with
  | _ => ("", "", "", false)
def tyJ10 : Nat → FieldType := fun k => match k with
  | _ => .int
abbrev wsJ100 : List Cond := u_ws RJ10 TJ10 0
theorem nmJ10 : ∀ a, a < 0 → ∀ b, b < 0 → a ≠ b → (TJ10 a).2.1 ≠ (TJ10 b).2.1 := by decide +kernel
theorem tyJ10_ok : ∀ k, k < 0 → parseFieldDescriptor (TJ10 k).2.2.1 = some (tyJ10 k) := by decide +kernel
def RJxfd54e : String := "java/lang/constant/Constable"
def TJxfd54e : u_T := fun k => match k with
  | _ => ("", "", "", false)
def tyJxfd54e : Nat → FieldType := fun k => match k with
  | _ => .int
abbrev wsJxfd54e0 : List Cond := u_ws RJxfd54e TJxfd54e 0
theorem nmJxfd54e : ∀ a, a < 0 → ∀ b, b < 0 → a ≠ b → (TJxfd54e a).2.1 ≠ (TJxfd54e b).2.1 := by decide +kernel
theorem tyJxfd54e_ok : ∀ k, k < 0 → parseFieldDescriptor (TJxfd54e k).2.2.1 = some (tyJxfd54e k) := by decide +kernel
def RJx3cf43 : String := "java/lang/constant/ConstantDesc"
def TJx3cf43 : u_T := fun k => match k with
  | _ => ("", "", "", false)
def tyJx3cf43 : Nat → FieldType := fun k => match k with
  | _ => .int
abbrev wsJx3cf430 : List Cond := u_ws RJx3cf43 TJx3cf43 0
theorem nmJx3cf43 : ∀ a, a < 0 → ∀ b, b < 0 → a ≠ b → (TJx3cf43 a).2.1 ≠ (TJx3cf43 b).2.1 := by decide +kernel
theorem tyJx3cf43_ok : ∀ k, k < 0 → parseFieldDescriptor (TJx3cf43 k).2.2.1 = some (tyJx3cf43 k) := by decide +kernel
def RJxa1e45 : String := "java/util/AbstractCollection"
def TJxa1e45 : u_T := fun k => match k with
  | _ => ("", "", "", false)
def tyJxa1e45 : Nat → FieldType := fun k => match k with
  | _ => .int
abbrev wsJxa1e450 : List Cond := u_ws RJxa1e45 TJxa1e45 0
theorem nmJxa1e45 : ∀ a, a < 0 → ∀ b, b < 0 → a ≠ b → (TJxa1e45 a).2.1 ≠ (TJxa1e45 b).2.1 := by decide +kernel
theorem tyJxa1e45_ok : ∀ k, k < 0 → parseFieldDescriptor (TJxa1e45 k).2.2.1 = some (tyJxa1e45 k) := by decide +kernel
abbrev cJxa1e45_init_da8c8 : ByteArray := prog_38_method_1_code
def yJxa1e45_init_da8c8 : MethodName := ⟨RJxa1e45, "<init>", "()V"⟩
def RJxc12de : String := "java/util/AbstractList"
def TJxc12de : u_T := fun k => match k with
  | _ => ("", "", "", false)
def tyJxc12de : Nat → FieldType := fun k => match k with
  | _ => .int
abbrev wsJxc12de0 : List Cond := u_ws RJxc12de TJxc12de 0
theorem nmJxc12de : ∀ a, a < 0 → ∀ b, b < 0 → a ≠ b → (TJxc12de a).2.1 ≠ (TJxc12de b).2.1 := by decide +kernel
theorem tyJxc12de_ok : ∀ k, k < 0 → parseFieldDescriptor (TJxc12de k).2.2.1 = some (tyJxc12de k) := by decide +kernel
abbrev cJxc12de_init_da8c8 : ByteArray := prog_39_method_1_code
def yJxc12de_init_da8c8 : MethodName := ⟨RJxc12de, "<init>", "()V"⟩
def RJx4a65c : String := "java/util/ArrayList"
def TJx4a65c : u_T := fun k => match k with
  | 0 => ("java/util/AbstractList", "modCount", "I", false)
  | 1 => ("java/util/ArrayList", "elementData", "[Ljava/lang/Object;", false)
  | _ => ("java/util/ArrayList", "size", "I", false)
def tyJx4a65c : Nat → FieldType := fun k => match k with
  | 0 => .int
  | 1 => .array (.object "java/lang/Object")
  | _ => .int
abbrev wsJx4a65c0 : List Cond := u_ws RJx4a65c TJx4a65c 3
theorem nmJx4a65c : ∀ a, a < 3 → ∀ b, b < 3 → a ≠ b → (TJx4a65c a).2.1 ≠ (TJx4a65c b).2.1 := by decide +kernel
theorem tyJx4a65c_ok : ∀ k, k < 3 → parseFieldDescriptor (TJx4a65c k).2.2.1 = some (tyJx4a65c k) := by decide +kernel
abbrev cJx4a65c_init_da8c8 : ByteArray := prog_40_method_2_code
def yJx4a65c_init_da8c8 : MethodName := ⟨RJx4a65c, "<init>", "()V"⟩
abbrev cJx4a65c_grow_92f84 : ByteArray := prog_40_method_6_code
def yJx4a65c_grow_92f84 : MethodName := ⟨RJx4a65c, "grow", "(I)[Ljava/lang/Object;"⟩
abbrev cJx4a65c_grow_d5877 : ByteArray := prog_40_method_7_code
def yJx4a65c_grow_d5877 : MethodName := ⟨RJx4a65c, "grow", "()[Ljava/lang/Object;"⟩
abbrev cJx4a65c_size_8abf5 : ByteArray := prog_40_method_8_code
def yJx4a65c_size_8abf5 : MethodName := ⟨RJx4a65c, "size", "()I"⟩
abbrev cJx4a65c_elementData_915e3 : ByteArray := prog_40_method_18_code
def yJx4a65c_elementData_915e3 : MethodName := ⟨RJx4a65c, "elementData", "(I)Ljava/lang/Object;"⟩
abbrev cJx4a65c_get_915e3 : ByteArray := prog_40_method_20_code
def yJx4a65c_get_915e3 : MethodName := ⟨RJx4a65c, "get", "(I)Ljava/lang/Object;"⟩
abbrev cJx4a65c_add_72be8 : ByteArray := prog_40_method_24_code
def yJx4a65c_add_72be8 : MethodName := ⟨RJx4a65c, "add", "(Ljava/lang/Object;[Ljava/lang/Object;I)V"⟩
abbrev cJx4a65c_add_9ea2d : ByteArray := prog_40_method_25_code
def yJx4a65c_add_9ea2d : MethodName := ⟨RJx4a65c, "add", "(Ljava/lang/Object;)Z"⟩
abbrev cJx4a65c_add_7a177 : ByteArray := prog_40_method_26_code
def yJx4a65c_add_7a177 : MethodName := ⟨RJx4a65c, "add", "(ILjava/lang/Object;)V"⟩
abbrev cJx4a65c_remove_915e3 : ByteArray := prog_40_method_29_code
def yJx4a65c_remove_915e3 : MethodName := ⟨RJx4a65c, "remove", "(I)Ljava/lang/Object;"⟩
abbrev cJx4a65c_fastRemove_b59b0 : ByteArray := prog_40_method_39_code
def yJx4a65c_fastRemove_b59b0 : MethodName := ⟨RJx4a65c, "fastRemove", "([Ljava/lang/Object;I)V"⟩
abbrev cJx4a65c_clear_da8c8 : ByteArray := prog_40_method_40_code
def yJx4a65c_clear_da8c8 : MethodName := ⟨RJx4a65c, "clear", "()V"⟩
abbrev cJx4a65c_rangeCheckForAdd_d00df : ByteArray := prog_40_method_45_code
def yJx4a65c_rangeCheckForAdd_d00df : MethodName := ⟨RJx4a65c, "rangeCheckForAdd", "(I)V"⟩
abbrev cJx4a65c_outOfBoundsMsg_b52d3 : ByteArray := prog_40_method_46_code
def yJx4a65c_outOfBoundsMsg_b52d3 : MethodName := ⟨RJx4a65c, "outOfBoundsMsg", "(I)Ljava/lang/String;"⟩
def RJ7 : String := "java/util/Arrays"
def TJ7 : u_T := fun k => match k with
  | _ => ("", "", "", false)
def tyJ7 : Nat → FieldType := fun k => match k with
  | _ => .int
abbrev wsJ70 : List Cond := u_ws RJ7 TJ7 0
theorem nmJ7 : ∀ a, a < 0 → ∀ b, b < 0 → a ≠ b → (TJ7 a).2.1 ≠ (TJ7 b).2.1 := by decide +kernel
theorem tyJ7_ok : ∀ k, k < 0 → parseFieldDescriptor (TJ7 k).2.2.1 = some (tyJ7 k) := by decide +kernel
abbrev cJ7_copyOf_1904c : ByteArray := prog_41_method_119_code
def yJ7_copyOf_1904c : MethodName := ⟨RJ7, "copyOf", "([Ljava/lang/Object;I)[Ljava/lang/Object;"⟩
abbrev cJ7_copyOf_6403c : ByteArray := prog_41_method_120_code
def yJ7_copyOf_6403c : MethodName := ⟨RJ7, "copyOf", "([Ljava/lang/Object;ILjava/lang/Class;)[Ljava/lang/Object;"⟩
abbrev cJ7_copyOf_9075b : ByteArray := prog_41_method_121_code
def yJ7_copyOf_9075b : MethodName := ⟨RJ7, "copyOf", "([BI)[B"⟩
abbrev cJ7_checkLength_df160 : ByteArray := prog_41_method_131_code
def yJ7_checkLength_df160 : MethodName := ⟨RJ7, "checkLength", "(II)V"⟩
abbrev cJ7_copyOfRange_39247 : ByteArray := prog_41_method_132_code
def yJ7_copyOfRange_39247 : MethodName := ⟨RJ7, "copyOfRange", "([BII)[B"⟩
abbrev cJ7_copyOfRangeByte_39247 : ByteArray := prog_41_method_133_code
def yJ7_copyOfRangeByte_39247 : MethodName := ⟨RJ7, "copyOfRangeByte", "([BII)[B"⟩
def RJx5ef63 : String := "java/util/Collection"
def TJx5ef63 : u_T := fun k => match k with
  | _ => ("", "", "", false)
def tyJx5ef63 : Nat → FieldType := fun k => match k with
  | _ => .int
abbrev wsJx5ef630 : List Cond := u_ws RJx5ef63 TJx5ef63 0
theorem nmJx5ef63 : ∀ a, a < 0 → ∀ b, b < 0 → a ≠ b → (TJx5ef63 a).2.1 ≠ (TJx5ef63 b).2.1 := by decide +kernel
theorem tyJx5ef63_ok : ∀ k, k < 0 → parseFieldDescriptor (TJx5ef63 k).2.2.1 = some (tyJx5ef63 k) := by decide +kernel
def RJxbd725 : String := "java/util/List"
def TJxbd725 : u_T := fun k => match k with
  | _ => ("", "", "", false)
def tyJxbd725 : Nat → FieldType := fun k => match k with
  | _ => .int
abbrev wsJxbd7250 : List Cond := u_ws RJxbd725 TJxbd725 0
theorem nmJxbd725 : ∀ a, a < 0 → ∀ b, b < 0 → a ≠ b → (TJxbd725 a).2.1 ≠ (TJxbd725 b).2.1 := by decide +kernel
theorem tyJxbd725_ok : ∀ k, k < 0 → parseFieldDescriptor (TJxbd725 k).2.2.1 = some (tyJxbd725 k) := by decide +kernel
def RJ15 : String := "java/util/Objects"
def TJ15 : u_T := fun k => match k with
  | _ => ("", "", "", false)
def tyJ15 : Nat → FieldType := fun k => match k with
  | _ => .int
abbrev wsJ150 : List Cond := u_ws RJ15 TJ15 0
theorem nmJ15 : ∀ a, a < 0 → ∀ b, b < 0 → a ≠ b → (TJ15 a).2.1 ≠ (TJ15 b).2.1 := by decide +kernel
theorem tyJ15_ok : ∀ k, k < 0 → parseFieldDescriptor (TJ15 k).2.2.1 = some (tyJ15 k) := by decide +kernel
abbrev cJ15_checkIndex_7cf53 : ByteArray := prog_44_method_17_code
def yJ15_checkIndex_7cf53 : MethodName := ⟨RJ15, "checkIndex", "(II)I"⟩
def RJxf0a74 : String := "java/util/RandomAccess"
def TJxf0a74 : u_T := fun k => match k with
  | _ => ("", "", "", false)
def tyJxf0a74 : Nat → FieldType := fun k => match k with
  | _ => .int
abbrev wsJxf0a740 : List Cond := u_ws RJxf0a74 TJxf0a74 0
theorem nmJxf0a74 : ∀ a, a < 0 → ∀ b, b < 0 → a ≠ b → (TJxf0a74 a).2.1 ≠ (TJxf0a74 b).2.1 := by decide +kernel
theorem tyJxf0a74_ok : ∀ k, k < 0 → parseFieldDescriptor (TJxf0a74 k).2.2.1 = some (tyJxf0a74 k) := by decide +kernel
def RJxa66e6 : String := "java/util/SequencedCollection"
def TJxa66e6 : u_T := fun k => match k with
  | _ => ("", "", "", false)
def tyJxa66e6 : Nat → FieldType := fun k => match k with
  | _ => .int
abbrev wsJxa66e60 : List Cond := u_ws RJxa66e6 TJxa66e6 0
theorem nmJxa66e6 : ∀ a, a < 0 → ∀ b, b < 0 → a ≠ b → (TJxa66e6 a).2.1 ≠ (TJxa66e6 b).2.1 := by decide +kernel
theorem tyJxa66e6_ok : ∀ k, k < 0 → parseFieldDescriptor (TJxa66e6 k).2.2.1 = some (tyJxa66e6 k) := by decide +kernel
def RJ8 : String := "jdk/internal/util/ArraysSupport"
def TJ8 : u_T := fun k => match k with
  | _ => ("", "", "", false)
def tyJ8 : Nat → FieldType := fun k => match k with
  | _ => .int
abbrev wsJ80 : List Cond := u_ws RJ8 TJ8 0
theorem nmJ8 : ∀ a, a < 0 → ∀ b, b < 0 → a ≠ b → (TJ8 a).2.1 ≠ (TJ8 b).2.1 := by decide +kernel
theorem tyJ8_ok : ∀ k, k < 0 → parseFieldDescriptor (TJ8 k).2.2.1 = some (tyJ8 k) := by decide +kernel
abbrev cJ8_newLength_cabcc : ByteArray := prog_47_method_27_code
def yJ8_newLength_cabcc : MethodName := ⟨RJ8, "newLength", "(III)I"⟩
abbrev cJ8_hugeLength_7cf53 : ByteArray := prog_47_method_28_code
def yJ8_hugeLength_7cf53 : MethodName := ⟨RJ8, "hugeLength", "(II)I"⟩
def RJ3 : String := "jdk/internal/util/Preconditions"
def TJ3 : u_T := fun k => match k with
  | _ => ("", "", "", false)
def tyJ3 : Nat → FieldType := fun k => match k with
  | _ => .int
abbrev wsJ30 : List Cond := u_ws RJ3 TJ3 0
theorem nmJ3 : ∀ a, a < 0 → ∀ b, b < 0 → a ≠ b → (TJ3 a).2.1 ≠ (TJ3 b).2.1 := by decide +kernel
theorem tyJ3_ok : ∀ k, k < 0 → parseFieldDescriptor (TJ3 k).2.2.1 = some (tyJ3 k) := by decide +kernel
abbrev cJ3_checkIndex_8e157 : ByteArray := prog_48_method_11_code
def yJ3_checkIndex_8e157 : MethodName := ⟨RJ3, "checkIndex", "(IILjava/util/function/BiFunction;)I"⟩
abbrev cJ3_checkFromToIndex_8c36e : ByteArray := prog_48_method_12_code
def yJ3_checkFromToIndex_8c36e : MethodName := ⟨RJ3, "checkFromToIndex", "(IIILjava/util/function/BiFunction;)I"⟩
abbrev cJ3_checkFromIndexSize_8c36e : ByteArray := prog_48_method_13_code
def yJ3_checkFromIndexSize_8c36e : MethodName := ⟨RJ3, "checkFromIndexSize", "(IIILjava/util/function/BiFunction;)I"⟩
def RL : String := "KeyterraceLaw"
abbrev cL_dice : ByteArray := method_2_code
def yL_dice : MethodName := ⟨RL, "dice", "([II)I"⟩
abbrev cL_act : ByteArray := method_3_code
def yL_act : MethodName := ⟨RL, "act", "(LKeyterrace;IIIIIII)I"⟩
abbrev cL_tells : ByteArray := method_4_code
def yL_tells : MethodName := ⟨RL, "tells", "(LKeyterrace;III)Z"⟩
abbrev cL_silent : ByteArray := method_5_code
def yL_silent : MethodName := ⟨RL, "silent", "(LKeyterrace;III)I"⟩
abbrev cL_loses : ByteArray := method_6_code
def yL_loses : MethodName := ⟨RL, "loses", "(LKeyterrace;Z)Z"⟩
abbrev cL_all : ByteArray := method_7_code
def yL_all : MethodName := ⟨RL, "all", "(LKeyterrace;[I)J"⟩
abbrev cL_isRefused : ByteArray := method_8_code
def yL_isRefused : MethodName := ⟨RL, "isRefused", "(LKeyterrace;[I[II)Z"⟩
abbrev cL_goesFor : ByteArray := method_9_code
def yL_goesFor : MethodName := ⟨RL, "goesFor", "(II)Z"⟩
abbrev cL_areIndexed : ByteArray := method_10_code
def yL_areIndexed : MethodName := ⟨RL, "areIndexed", "(LKeyterrace;IIZ)Z"⟩
abbrev cL_areParted : ByteArray := method_11_code
def yL_areParted : MethodName := ⟨RL, "areParted", "(LKeyterrace;)Z"⟩
abbrev cL_was : ByteArray := method_12_code
def yL_was : MethodName := ⟨RL, "was", "(LKeyterrace;II)I"⟩
abbrev cL_isCommitted : ByteArray := method_13_code
def yL_isCommitted : MethodName := ⟨RL, "isCommitted", "(LKeyterrace;[I[II)Z"⟩
abbrev cL_law : ByteArray := code
def yL_law : MethodName := ⟨RL, "law", "([I)Z"⟩
abbrev vwCl : List vw_C := [(RJ0, TJ0, 4), (RJ4, TJ4, 4), (RJx4a65c, TJx4a65c, 3), (RX0, TX0, 3), (RX1, TX1, 5), (RX2, TX2, 4), (RX3, TX3, 6), (RX4, TX4, 2), (RX5, TX5, 3), (RX6, TX6, 1), (RX7, TX7, 3), (RX8, TX8, 7), (RX9, TX9, 8), (RX10, TX10, 2), (RX11, TX11, 13)]
