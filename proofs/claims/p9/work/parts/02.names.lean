def RX0 : String := "FloorQueue$Arc"
def TX0 : u_T := fun k => match k with
  | 0 => ("FloorQueue$Arc", "end", "I", true)
  | 1 => ("FloorQueue$Arc", "length", "I", true)
  | _ => ("FloorQueue$Arc", "earlier", "LFloorQueue$Arc;", true)
def tyX0 : Nat → FieldType := fun k => match k with
  | 0 => .int
  | 1 => .int
  | _ => .object "FloorQueue$Arc"
abbrev wsX00 : List Cond := u_ws RX0 TX0 3
theorem nmX0 : ∀ a, a < 3 → ∀ b, b < 3 → a ≠ b → (TX0 a).2.1 ≠ (TX0 b).2.1 := by decide +kernel
theorem tyX0_ok : ∀ k, k < 3 → parseFieldDescriptor (TX0 k).2.2.1 = some (tyX0 k) := by decide +kernel
abbrev cX0_init : ByteArray := prog_2_method_1_code
def yX0_init : MethodName := ⟨RX0, "<init>", "(IILFloorQueue$Arc;)V"⟩
def RX1 : String := "FloorQueue"
def TX1 : u_T := fun k => match k with
  | 0 => ("FloorQueue", "items", "I", true)
  | 1 => ("FloorQueue", "arcRoom", "I", true)
  | 2 => ("FloorQueue", "greatestLength", "I", true)
  | 3 => ("FloorQueue", "keys", "[I", true)
  | 4 => ("FloorQueue", "buckets", "[I", true)
  | 5 => ("FloorQueue", "members", "[I", true)
  | 6 => ("FloorQueue", "floorKey", "I", false)
  | 7 => ("FloorQueue", "present", "I", false)
  | 8 => ("FloorQueue", "placings", "I", false)
  | 9 => ("FloorQueue", "keyings", "I", false)
  | 10 => ("FloorQueue", "latestArcs", "[LFloorQueue$Arc;", true)
  | 11 => ("FloorQueue", "arcs", "I", false)
  | 12 => ("FloorQueue", "distances", "[I", true)
  | _ => ("FloorQueue", "befores", "[I", true)
def tyX1 : Nat → FieldType := fun k => match k with
  | 0 => .int
  | 1 => .int
  | 2 => .int
  | 3 => .array .int
  | 4 => .array .int
  | 5 => .array .int
  | 6 => .int
  | 7 => .int
  | 8 => .int
  | 9 => .int
  | 10 => .array (.object "FloorQueue$Arc")
  | 11 => .int
  | 12 => .array .int
  | _ => .array .int
abbrev wsX10 : List Cond := u_ws RX1 TX1 14
theorem nmX1 : ∀ a, a < 14 → ∀ b, b < 14 → a ≠ b → (TX1 a).2.1 ≠ (TX1 b).2.1 := by decide +kernel
theorem tyX1_ok : ∀ k, k < 14 → parseFieldDescriptor (TX1 k).2.2.1 = some (tyX1 k) := by decide +kernel
abbrev cX1_init : ByteArray := prog_1_method_1_code
def yX1_init : MethodName := ⟨RX1, "<init>", "(III)V"⟩
abbrev cX1_push : ByteArray := prog_1_method_2_code
def yX1_push : MethodName := ⟨RX1, "push", "(II)I"⟩
abbrev cX1_lower : ByteArray := prog_1_method_3_code
def yX1_lower : MethodName := ⟨RX1, "lower", "(II)I"⟩
abbrev cX1_pop : ByteArray := prog_1_method_4_code
def yX1_pop : MethodName := ⟨RX1, "pop", "()I"⟩
abbrev cX1_floor : ByteArray := prog_1_method_5_code
def yX1_floor : MethodName := ⟨RX1, "floor", "()I"⟩
abbrev cX1_size : ByteArray := prog_1_method_6_code
def yX1_size : MethodName := ⟨RX1, "size", "()I"⟩
abbrev cX1_key : ByteArray := prog_1_method_7_code
def yX1_key : MethodName := ⟨RX1, "key", "(I)I"⟩
abbrev cX1_bucket : ByteArray := prog_1_method_8_code
def yX1_bucket : MethodName := ⟨RX1, "bucket", "(I)I"⟩
abbrev cX1_many : ByteArray := prog_1_method_9_code
def yX1_many : MethodName := ⟨RX1, "many", "(I)I"⟩
abbrev cX1_placed : ByteArray := prog_1_method_10_code
def yX1_placed : MethodName := ⟨RX1, "placed", "()I"⟩
abbrev cX1_arc : ByteArray := prog_1_method_11_code
def yX1_arc : MethodName := ⟨RX1, "arc", "(III)I"⟩
abbrev cX1_run : ByteArray := prog_1_method_12_code
def yX1_run : MethodName := ⟨RX1, "run", "(I)I"⟩
abbrev cX1_distance : ByteArray := prog_1_method_13_code
def yX1_distance : MethodName := ⟨RX1, "distance", "(I)I"⟩
abbrev cX1_before : ByteArray := prog_1_method_14_code
def yX1_before : MethodName := ⟨RX1, "before", "(I)I"⟩
abbrev cX1_sound : ByteArray := prog_1_method_15_code
def yX1_sound : MethodName := ⟨RX1, "sound", "()Z"⟩
abbrev cX1_count : ByteArray := prog_1_method_16_code
def yX1_count : MethodName := ⟨RX1, "count", "(I)I"⟩
abbrev cX1_isItem : ByteArray := prog_1_method_17_code
def yX1_isItem : MethodName := ⟨RX1, "isItem", "(I)Z"⟩
abbrev cX1_isThere : ByteArray := prog_1_method_18_code
def yX1_isThere : MethodName := ⟨RX1, "isThere", "(I)Z"⟩
abbrev cX1_isWhereItBelongs : ByteArray := prog_1_method_19_code
def yX1_isWhereItBelongs : MethodName := ⟨RX1, "isWhereItBelongs", "(I)Z"⟩
abbrev cX1_bucketFor : ByteArray := prog_1_method_20_code
def yX1_bucketFor : MethodName := ⟨RX1, "bucketFor", "(I)I"⟩
abbrev cX1_putIntoBucket : ByteArray := prog_1_method_21_code
def yX1_putIntoBucket : MethodName := ⟨RX1, "putIntoBucket", "(I)V"⟩
abbrev cX1_leaveBucket : ByteArray := prog_1_method_22_code
def yX1_leaveBucket : MethodName := ⟨RX1, "leaveBucket", "(I)V"⟩
abbrev cX1_takeOut : ByteArray := prog_1_method_23_code
def yX1_takeOut : MethodName := ⟨RX1, "takeOut", "(I)V"⟩
abbrev cX1_lowestBucket : ByteArray := prog_1_method_24_code
def yX1_lowestBucket : MethodName := ⟨RX1, "lowestBucket", "()I"⟩
abbrev cX1_leastItemIn : ByteArray := prog_1_method_25_code
def yX1_leastItemIn : MethodName := ⟨RX1, "leastItemIn", "(I)I"⟩
abbrev cX1_spread : ByteArray := prog_1_method_26_code
def yX1_spread : MethodName := ⟨RX1, "spread", "(I)V"⟩
abbrev cX1_emptyQueue : ByteArray := prog_1_method_27_code
def yX1_emptyQueue : MethodName := ⟨RX1, "emptyQueue", "()V"⟩
abbrev cX1_forgetWays : ByteArray := prog_1_method_28_code
def yX1_forgetWays : MethodName := ⟨RX1, "forgetWays", "()V"⟩
abbrev cX1_takeNext : ByteArray := prog_1_method_29_code
def yX1_takeNext : MethodName := ⟨RX1, "takeNext", "()V"⟩
abbrev cX1_tryWay : ByteArray := prog_1_method_30_code
def yX1_tryWay : MethodName := ⟨RX1, "tryWay", "(ILFloorQueue$Arc;)V"⟩
abbrev cX1_isSomeWayTooLong : ByteArray := prog_1_method_31_code
def yX1_isSomeWayTooLong : MethodName := ⟨RX1, "isSomeWayTooLong", "()Z"⟩
abbrev cX1_leadsToUntaken : ByteArray := prog_1_method_32_code
def yX1_leadsToUntaken : MethodName := ⟨RX1, "leadsToUntaken", "(I)Z"⟩
def RX2 : String := "FloorQueueModel"
def TX2 : u_T := fun k => match k with
  | 0 => ("FloorQueueModel", "items", "I", true)
  | 1 => ("FloorQueueModel", "mostArcs", "I", true)
  | 2 => ("FloorQueueModel", "mostLength", "I", true)
  | 3 => ("FloorQueueModel", "keys", "[I", true)
  | 4 => ("FloorQueueModel", "lowest", "I", false)
  | 5 => ("FloorQueueModel", "placings", "I", false)
  | 6 => ("FloorQueueModel", "calls", "I", false)
  | 7 => ("FloorQueueModel", "arcs", "I", false)
  | 8 => ("FloorQueueModel", "froms", "[I", true)
  | 9 => ("FloorQueueModel", "tos", "[I", true)
  | 10 => ("FloorQueueModel", "lengths", "[I", true)
  | 11 => ("FloorQueueModel", "hasWays", "Z", false)
  | 12 => ("FloorQueueModel", "ways", "[I", true)
  | 13 => ("FloorQueueModel", "formers", "[I", true)
  | 14 => ("FloorQueueModel", "taken", "[Z", true)
  | _ => ("FloorQueueModel", "near", "[Z", true)
def tyX2 : Nat → FieldType := fun k => match k with
  | 0 => .int
  | 1 => .int
  | 2 => .int
  | 3 => .array .int
  | 4 => .int
  | 5 => .int
  | 6 => .int
  | 7 => .int
  | 8 => .array .int
  | 9 => .array .int
  | 10 => .array .int
  | 11 => .boolean
  | 12 => .array .int
  | 13 => .array .int
  | 14 => .array .boolean
  | _ => .array .boolean
abbrev wsX20 : List Cond := u_ws RX2 TX2 16
theorem nmX2 : ∀ a, a < 16 → ∀ b, b < 16 → a ≠ b → (TX2 a).2.1 ≠ (TX2 b).2.1 := by decide +kernel
theorem tyX2_ok : ∀ k, k < 16 → parseFieldDescriptor (TX2 k).2.2.1 = some (tyX2 k) := by decide +kernel
abbrev cX2_init : ByteArray := prog_4_method_1_code
def yX2_init : MethodName := ⟨RX2, "<init>", "(III)V"⟩
abbrev cX2_clear : ByteArray := prog_4_method_3_code
def yX2_clear : MethodName := ⟨RX2, "clear", "()V"⟩
abbrev cX2_isItem : ByteArray := prog_4_method_4_code
def yX2_isItem : MethodName := ⟨RX2, "isItem", "(I)Z"⟩
abbrev cX2_isThere : ByteArray := prog_4_method_5_code
def yX2_isThere : MethodName := ⟨RX2, "isThere", "(I)Z"⟩
abbrev cX2_unlike : ByteArray := prog_4_method_6_code
def yX2_unlike : MethodName := ⟨RX2, "unlike", "(II)I"⟩
abbrev cX2_push : ByteArray := prog_4_method_7_code
def yX2_push : MethodName := ⟨RX2, "push", "(II)I"⟩
abbrev cX2_lower : ByteArray := prog_4_method_8_code
def yX2_lower : MethodName := ⟨RX2, "lower", "(II)I"⟩
abbrev cX2_pop : ByteArray := prog_4_method_9_code
def yX2_pop : MethodName := ⟨RX2, "pop", "()I"⟩
abbrev cX2_floor : ByteArray := prog_4_method_10_code
def yX2_floor : MethodName := ⟨RX2, "floor", "()I"⟩
abbrev cX2_size : ByteArray := prog_4_method_11_code
def yX2_size : MethodName := ⟨RX2, "size", "()I"⟩
abbrev cX2_key : ByteArray := prog_4_method_12_code
def yX2_key : MethodName := ⟨RX2, "key", "(I)I"⟩
abbrev cX2_bucket : ByteArray := prog_4_method_13_code
def yX2_bucket : MethodName := ⟨RX2, "bucket", "(I)I"⟩
abbrev cX2_many : ByteArray := prog_4_method_14_code
def yX2_many : MethodName := ⟨RX2, "many", "(I)I"⟩
abbrev cX2_placed : ByteArray := prog_4_method_15_code
def yX2_placed : MethodName := ⟨RX2, "placed", "()I"⟩
abbrev cX2_arc : ByteArray := prog_4_method_16_code
def yX2_arc : MethodName := ⟨RX2, "arc", "(III)I"⟩
abbrev cX2_reach : ByteArray := prog_4_method_17_code
def yX2_reach : MethodName := ⟨RX2, "reach", "(III)V"⟩
abbrev cX2_spread : ByteArray := prog_4_method_18_code
def yX2_spread : MethodName := ⟨RX2, "spread", "(I)V"⟩
abbrev cX2_run : ByteArray := prog_4_method_19_code
def yX2_run : MethodName := ⟨RX2, "run", "(I)I"⟩
abbrev cX2_distance : ByteArray := prog_4_method_20_code
def yX2_distance : MethodName := ⟨RX2, "distance", "(I)I"⟩
abbrev cX2_before : ByteArray := prog_4_method_21_code
def yX2_before : MethodName := ⟨RX2, "before", "(I)I"⟩
abbrev cX2_sound : ByteArray := prog_4_method_22_code
def yX2_sound : MethodName := ⟨RX2, "sound", "()Z"⟩
abbrev cX2_count : ByteArray := prog_4_method_23_code
def yX2_count : MethodName := ⟨RX2, "count", "(I)I"⟩
def RJ6 : String := "java/lang/Integer"
def TJ6 : u_T := fun k => match k with
  | _ => ("", "", "", false)
def tyJ6 : Nat → FieldType := fun k => match k with
  | _ => .int
abbrev wsJ60 : List Cond := u_ws RJ6 TJ6 0
abbrev cJ6_numberOfLeadingZeros_0f7a4 : ByteArray := prog_5_method_47_code
def yJ6_numberOfLeadingZeros_0f7a4 : MethodName := ⟨RJ6, "numberOfLeadingZeros", "(I)I"⟩
def RJ9 : String := "java/lang/Math"
def TJ9 : u_T := fun k => match k with
  | _ => ("", "", "", false)
def tyJ9 : Nat → FieldType := fun k => match k with
  | _ => .int
abbrev wsJ90 : List Cond := u_ws RJ9 TJ9 0
abbrev cJ9_max_7cf53 : ByteArray := prog_6_method_65_code
def yJ9_max_7cf53 : MethodName := ⟨RJ9, "max", "(II)I"⟩
abbrev cJ9_min_7cf53 : ByteArray := prog_6_method_69_code
def yJ9_min_7cf53 : MethodName := ⟨RJ9, "min", "(II)I"⟩
def RJ7 : String := "java/util/Arrays"
def TJ7 : u_T := fun k => match k with
  | _ => ("", "", "", false)
def tyJ7 : Nat → FieldType := fun k => match k with
  | _ => .int
abbrev wsJ70 : List Cond := u_ws RJ7 TJ7 0
abbrev cJ7_fill_53178 : ByteArray := prog_7_method_103_code
def yJ7_fill_53178 : MethodName := ⟨RJ7, "fill", "([II)V"⟩
def RL : String := "FloorQueueLaw"
abbrev cL_cell : ByteArray := method_2_code
def yL_cell : MethodName := ⟨RL, "cell", "([II)I"⟩
abbrev cL_law : ByteArray := code
def yL_law : MethodName := ⟨RL, "law", "([I)Z"⟩
def wsL_law_r1 : List Cond := [Cond.classLink RL 7 RX1, Cond.instantiable RX1 14, Cond.initialized RX1, Cond.classLink RL 18 RX2, Cond.instantiable RX2 16, Cond.initialized RX2, Cond.methodLink RL 9 yL_cell, Cond.static yL_cell, Cond.initialized RL, Cond.code yL_cell cL_cell 2 (some .int), Cond.methodLink RL 15 yX1_init, Cond.instanceMethod yX1_init, Cond.code yX1_init cX1_init 4 none, Cond.methodLink RX1 1 objectInit, Cond.instanceMethod objectInit, Cond.code objectInit ⟨#[0xb1]⟩ 1 none, Cond.methodLink RX1 9 Lib.Math.min.name, Cond.static Lib.Math.min.name, Cond.initialized "java/lang/Math", Cond.code Lib.Math.min.name Lib.Math.min.code 2 (some .int), Cond.methodLink RX1 15 Lib.Math.max.name, Cond.static Lib.Math.max.name, Cond.code Lib.Math.max.name Lib.Math.max.code 2 (some .int), Cond.fieldLink RX1 18 "FloorQueue" "items" "I"]
def wsL_law_r2 : List Cond := [Cond.fieldLink RX1 22 "FloorQueue" "arcRoom" "I", Cond.fieldLink RX1 25 "FloorQueue" "greatestLength" "I", Cond.arrayClass .int, Cond.fieldLink RX1 28 "FloorQueue" "keys" "[I", Cond.fieldLink RX1 32 "FloorQueue" "buckets" "[I", Cond.fieldLink RX1 35 "FloorQueue" "members" "[I", Cond.classLink RX1 38 RX0, Cond.fieldLink RX1 40 "FloorQueue" "latestArcs" "[LFloorQueue$Arc;", Cond.fieldLink RX1 44 "FloorQueue" "distances" "[I", Cond.fieldLink RX1 47 "FloorQueue" "befores" "[I", Cond.methodLink RX1 50 yJ7_fill_53178, Cond.static yJ7_fill_53178, Cond.initialized RJ7, Cond.code yJ7_fill_53178 cJ7_fill_53178 4 none, Cond.methodLink RL 20 yX2_init, Cond.instanceMethod yX2_init, Cond.code yX2_init cX2_init 4 none, Cond.methodLink RX2 1 objectInit, Cond.fieldLink RX2 7 "FloorQueueModel" "keys" "[I", Cond.fieldLink RX2 13 "FloorQueueModel" "froms" "[I", Cond.fieldLink RX2 16 "FloorQueueModel" "tos" "[I", Cond.fieldLink RX2 19 "FloorQueueModel" "lengths" "[I", Cond.fieldLink RX2 22 "FloorQueueModel" "ways" "[I", Cond.fieldLink RX2 25 "FloorQueueModel" "formers" "[I"]
def wsL_law_r3 : List Cond := [Cond.arrayClass .boolean, Cond.fieldLink RX2 28 "FloorQueueModel" "taken" "[Z", Cond.fieldLink RX2 32 "FloorQueueModel" "near" "[Z", Cond.fieldLink RX2 35 "FloorQueueModel" "items" "I", Cond.fieldLink RX2 39 "FloorQueueModel" "mostArcs" "I", Cond.fieldLink RX2 42 "FloorQueueModel" "mostLength" "I", Cond.methodLink RX2 45 yX2_clear, Cond.instanceMethod yX2_clear, Cond.selects RX2 yX2_clear yX2_clear, Cond.code yX2_clear cX2_clear 2 none, Cond.fieldLink RX2 48 "FloorQueueModel" "lowest" "I", Cond.methodLink RL 21 yX1_push, Cond.instanceMethod yX1_push, Cond.selects RX1 yX1_push yX1_push, Cond.code yX1_push cX1_push 3 (some .int), Cond.fieldLink RX1 63 "FloorQueue" "floorKey" "I", Cond.fieldLink RX1 66 "FloorQueue" "present" "I", Cond.fieldLink RX1 69 "FloorQueue" "keyings" "I", Cond.methodLink RX1 56 yX1_isItem, Cond.instanceMethod yX1_isItem, Cond.selects RX1 yX1_isItem yX1_isItem, Cond.code yX1_isItem cX1_isItem 2 (some .boolean), Cond.methodLink RX1 60 yX1_isThere, Cond.instanceMethod yX1_isThere]
def wsL_law_r4 : List Cond := [Cond.selects RX1 yX1_isThere yX1_isThere, Cond.code yX1_isThere cX1_isThere 2 (some .boolean), Cond.methodLink RX1 72 yX1_putIntoBucket, Cond.instanceMethod yX1_putIntoBucket, Cond.selects RX1 yX1_putIntoBucket yX1_putIntoBucket, Cond.code yX1_putIntoBucket cX1_putIntoBucket 3 none, Cond.fieldLink RX1 93 "FloorQueue" "placings" "I", Cond.methodLink RX1 128 yX1_leaveBucket, Cond.instanceMethod yX1_leaveBucket, Cond.selects RX1 yX1_leaveBucket yX1_leaveBucket, Cond.code yX1_leaveBucket cX1_leaveBucket 3 none, Cond.methodLink RX1 76 yX1_bucketFor, Cond.instanceMethod yX1_bucketFor, Cond.selects RX1 yX1_bucketFor yX1_bucketFor, Cond.code yX1_bucketFor cX1_bucketFor 2 (some .int), Cond.methodLink RX1 123 yJ6_numberOfLeadingZeros_0f7a4, Cond.static yJ6_numberOfLeadingZeros_0f7a4, Cond.initialized RJ6, Cond.code yJ6_numberOfLeadingZeros_0f7a4 cJ6_numberOfLeadingZeros_0f7a4 2 (some .int), Cond.constant RJ6 264 (65536), Cond.methodLink RL 25 yX2_push, Cond.instanceMethod yX2_push, Cond.selects RX2 yX2_push yX2_push, Cond.code yX2_push cX2_push 3 (some .int)]
def wsL_law_r5 : List Cond := [Cond.fieldLink RX2 55 "FloorQueueModel" "placings" "I", Cond.fieldLink RX2 58 "FloorQueueModel" "calls" "I", Cond.methodLink RX2 51 yX2_isItem, Cond.instanceMethod yX2_isItem, Cond.selects RX2 yX2_isItem yX2_isItem, Cond.code yX2_isItem cX2_isItem 2 (some .boolean), Cond.methodLink RL 26 yX1_lower, Cond.instanceMethod yX1_lower, Cond.selects RX1 yX1_lower yX1_lower, Cond.code yX1_lower cX1_lower 3 (some .int), Cond.methodLink RL 29 yX2_lower, Cond.instanceMethod yX2_lower, Cond.selects RX2 yX2_lower yX2_lower, Cond.code yX2_lower cX2_lower 3 (some .int), Cond.methodLink RX2 61 yX2_isThere, Cond.instanceMethod yX2_isThere, Cond.selects RX2 yX2_isThere yX2_isThere, Cond.code yX2_isThere cX2_isThere 2 (some .boolean), Cond.methodLink RX2 64 yX2_unlike, Cond.static yX2_unlike, Cond.code yX2_unlike cX2_unlike 4 (some .int), Cond.methodLink RL 30 yX1_pop, Cond.instanceMethod yX1_pop, Cond.selects RX1 yX1_pop yX1_pop]
def wsL_law_r6 : List Cond := [Cond.code yX1_pop cX1_pop 3 (some .int), Cond.methodLink RX1 80 yX1_lowestBucket, Cond.instanceMethod yX1_lowestBucket, Cond.selects RX1 yX1_lowestBucket yX1_lowestBucket, Cond.code yX1_lowestBucket cX1_lowestBucket 2 (some .int), Cond.methodLink RX1 84 yX1_leastItemIn, Cond.instanceMethod yX1_leastItemIn, Cond.selects RX1 yX1_leastItemIn yX1_leastItemIn, Cond.code yX1_leastItemIn cX1_leastItemIn 4 (some .int), Cond.methodLink RX1 87 yX1_spread, Cond.instanceMethod yX1_spread, Cond.selects RX1 yX1_spread yX1_spread, Cond.code yX1_spread cX1_spread 3 none, Cond.methodLink RX1 90 yX1_takeOut, Cond.instanceMethod yX1_takeOut, Cond.selects RX1 yX1_takeOut yX1_takeOut, Cond.code yX1_takeOut cX1_takeOut 2 none, Cond.methodLink RL 34 yX2_pop, Cond.instanceMethod yX2_pop, Cond.selects RX2 yX2_pop yX2_pop, Cond.code yX2_pop cX2_pop 4 (some .int), Cond.methodLink RL 35 yX1_floor, Cond.instanceMethod yX1_floor, Cond.selects RX1 yX1_floor yX1_floor]
def wsL_law_r7 : List Cond := [Cond.code yX1_floor cX1_floor 1 (some .int), Cond.methodLink RL 38 yX2_floor, Cond.instanceMethod yX2_floor, Cond.selects RX2 yX2_floor yX2_floor, Cond.code yX2_floor cX2_floor 1 (some .int), Cond.methodLink RL 39 yX1_size, Cond.instanceMethod yX1_size, Cond.selects RX1 yX1_size yX1_size, Cond.code yX1_size cX1_size 1 (some .int), Cond.methodLink RL 42 yX2_size, Cond.instanceMethod yX2_size, Cond.selects RX2 yX2_size yX2_size, Cond.code yX2_size cX2_size 3 (some .int), Cond.methodLink RL 43 yX1_key, Cond.instanceMethod yX1_key, Cond.selects RX1 yX1_key yX1_key, Cond.code yX1_key cX1_key 2 (some .int), Cond.methodLink RL 47 yX2_key, Cond.instanceMethod yX2_key, Cond.selects RX2 yX2_key yX2_key, Cond.code yX2_key cX2_key 2 (some .int), Cond.methodLink RL 48 yX1_bucket, Cond.instanceMethod yX1_bucket, Cond.selects RX1 yX1_bucket yX1_bucket]
def wsL_law_r8 : List Cond := [Cond.code yX1_bucket cX1_bucket 2 (some .int), Cond.methodLink RL 51 yX2_bucket, Cond.instanceMethod yX2_bucket, Cond.selects RX2 yX2_bucket yX2_bucket, Cond.code yX2_bucket cX2_bucket 2 (some .int), Cond.methodLink RL 52 yX1_many, Cond.instanceMethod yX1_many, Cond.selects RX1 yX1_many yX1_many, Cond.code yX1_many cX1_many 2 (some .int), Cond.methodLink RL 55 yX2_many, Cond.instanceMethod yX2_many, Cond.selects RX2 yX2_many yX2_many, Cond.code yX2_many cX2_many 4 (some .int), Cond.methodLink RL 56 yX1_placed, Cond.instanceMethod yX1_placed, Cond.selects RX1 yX1_placed yX1_placed, Cond.code yX1_placed cX1_placed 1 (some .int), Cond.methodLink RL 59 yX2_placed, Cond.instanceMethod yX2_placed, Cond.selects RX2 yX2_placed yX2_placed, Cond.code yX2_placed cX2_placed 1 (some .int), Cond.methodLink RL 60 yX1_arc, Cond.instanceMethod yX1_arc, Cond.selects RX1 yX1_arc yX1_arc]
def wsL_law_r9 : List Cond := [Cond.code yX1_arc cX1_arc 4 (some .int), Cond.fieldLink RX1 96 "FloorQueue" "arcs" "I", Cond.instantiable RX0 3, Cond.initialized RX0, Cond.instanceMethod yX0_init, Cond.code yX0_init cX0_init 4 none, Cond.methodLink RX0 1 objectInit, Cond.fieldLink RX0 7 "FloorQueue$Arc" "end" "I", Cond.fieldLink RX0 13 "FloorQueue$Arc" "length" "I", Cond.fieldLink RX0 16 "FloorQueue$Arc" "earlier" "LFloorQueue$Arc;", Cond.methodLink RX1 102 yX1_forgetWays, Cond.instanceMethod yX1_forgetWays, Cond.selects RX1 yX1_forgetWays yX1_forgetWays, Cond.code yX1_forgetWays cX1_forgetWays 1 none, Cond.methodLink RL 64 yX2_arc, Cond.instanceMethod yX2_arc, Cond.selects RX2 yX2_arc yX2_arc, Cond.code yX2_arc cX2_arc 4 (some .int), Cond.fieldLink RX2 68 "FloorQueueModel" "arcs" "I", Cond.fieldLink RX2 71 "FloorQueueModel" "hasWays" "Z", Cond.methodLink RL 65 yX1_run, Cond.instanceMethod yX1_run, Cond.selects RX1 yX1_run yX1_run, Cond.code yX1_run cX1_run 3 (some .int)]
def wsL_law_r10 : List Cond := [Cond.methodLink RX1 105 yX1_emptyQueue, Cond.instanceMethod yX1_emptyQueue, Cond.selects RX1 yX1_emptyQueue yX1_emptyQueue, Cond.code yX1_emptyQueue cX1_emptyQueue 1 none, Cond.methodLink RX1 108 yX1_push, Cond.methodLink RX1 111 yX1_takeNext, Cond.instanceMethod yX1_takeNext, Cond.selects RX1 yX1_takeNext yX1_takeNext, Cond.code yX1_takeNext cX1_takeNext 3 none, Cond.methodLink RX1 131 yX1_pop, Cond.methodLink RX1 134 yX1_tryWay, Cond.instanceMethod yX1_tryWay, Cond.selects RX1 yX1_tryWay yX1_tryWay, Cond.code yX1_tryWay cX1_tryWay 6 none, Cond.constantLong RX1 148 (2147483647), Cond.methodLink RX1 150 yX1_lower, Cond.methodLink RX1 114 yX1_isSomeWayTooLong, Cond.instanceMethod yX1_isSomeWayTooLong, Cond.selects RX1 yX1_isSomeWayTooLong yX1_isSomeWayTooLong, Cond.code yX1_isSomeWayTooLong cX1_isSomeWayTooLong 2 (some .boolean), Cond.methodLink RX1 153 yX1_leadsToUntaken, Cond.instanceMethod yX1_leadsToUntaken, Cond.selects RX1 yX1_leadsToUntaken yX1_leadsToUntaken, Cond.code yX1_leadsToUntaken cX1_leadsToUntaken 3 (some .boolean)]
def wsL_law_r11 : List Cond := [Cond.methodLink RL 68 yX2_run, Cond.instanceMethod yX2_run, Cond.selects RX2 yX2_run yX2_run, Cond.code yX2_run cX2_run 5 (some .int), Cond.constant RX2 87 (2147483647), Cond.methodLink RX2 77 yX2_push, Cond.methodLink RX2 83 yX2_size, Cond.methodLink RX2 88 yX2_pop, Cond.methodLink RX2 91 yX2_reach, Cond.instanceMethod yX2_reach, Cond.selects RX2 yX2_reach yX2_reach, Cond.code yX2_reach cX2_reach 6 none, Cond.constantLong RX2 75 (2147483647), Cond.methodLink RX2 80 yX2_lower, Cond.methodLink RX2 95 yX2_spread, Cond.instanceMethod yX2_spread, Cond.selects RX2 yX2_spread yX2_spread, Cond.code yX2_spread cX2_spread 4 none, Cond.methodLink RL 69 yX1_distance, Cond.instanceMethod yX1_distance, Cond.selects RX1 yX1_distance yX1_distance, Cond.code yX1_distance cX1_distance 2 (some .int), Cond.methodLink RL 72 yX2_distance, Cond.instanceMethod yX2_distance]
def wsL_law_r12 : List Cond := [Cond.selects RX2 yX2_distance yX2_distance, Cond.code yX2_distance cX2_distance 2 (some .int), Cond.methodLink RL 73 yX1_before, Cond.instanceMethod yX1_before, Cond.selects RX1 yX1_before yX1_before, Cond.code yX1_before cX1_before 2 (some .int), Cond.methodLink RL 76 yX2_before, Cond.instanceMethod yX2_before, Cond.selects RX2 yX2_before yX2_before, Cond.code yX2_before cX2_before 2 (some .int), Cond.methodLink RL 77 yX1_sound, Cond.instanceMethod yX1_sound, Cond.selects RX1 yX1_sound yX1_sound, Cond.code yX1_sound cX1_sound 2 (some .boolean), Cond.constantLong RX1 121 (32), Cond.methodLink RX1 118 yX1_isWhereItBelongs, Cond.instanceMethod yX1_isWhereItBelongs, Cond.selects RX1 yX1_isWhereItBelongs yX1_isWhereItBelongs, Cond.code yX1_isWhereItBelongs cX1_isWhereItBelongs 2 (some .boolean), Cond.methodLink RL 81 yX2_sound, Cond.instanceMethod yX2_sound, Cond.selects RX2 yX2_sound yX2_sound, Cond.code yX2_sound cX2_sound 1 (some .boolean), Cond.methodLink RL 82 yX1_count]
def wsL_law_r13 : List Cond := [Cond.instanceMethod yX1_count, Cond.selects RX1 yX1_count yX1_count, Cond.code yX1_count cX1_count 2 (some .int), Cond.methodLink RL 85 yX2_count, Cond.instanceMethod yX2_count, Cond.selects RX2 yX2_count yX2_count, Cond.code yX2_count cX2_count 2 (some .int)]
def wsL_law : List Cond := (wsL_law_r1 ++ (wsL_law_r2 ++ (wsL_law_r3 ++ (wsL_law_r4 ++ (wsL_law_r5 ++ (wsL_law_r6 ++ (wsL_law_r7 ++ (wsL_law_r8 ++ (wsL_law_r9 ++ (wsL_law_r10 ++ (wsL_law_r11 ++ (wsL_law_r12 ++ wsL_law_r13)))))))))))) ++ wsX10 ++ wsX20 ++ wsX00 ++ ([] : List Cond)
set_option maxRecDepth 20000 in
theorem wsL_law_in : ∀ w ∈ wsL_law, w ∈ lw_tbl := fun w h => (goodIn_p wsL_law [244, 32, 35, 38, 41, 46, 249, 254, 94, 98, 102, 106, 110, 114, 117, 308, 312, 122, 316, 320, 323, 126, 130, 134, 138, 142, 327, 146, 331, 150, 335, 154, 339, 158, 343, 162, 347, 166, 351, 170, 174, 192, 355, 196, 200, 205, 210, 216, 220, 359, 367, 373, 224, 377, 228, 381, 232, 236, 385, 241, 389] (by decide +kernel) (by decide +kernel) w h).1
theorem inlX0 : ∀ w ∈ wsX00, w ∈ wsL_law := fun _ h => List.mem_append_left _ (List.mem_append_right _ h)
theorem inX0 : ∀ w ∈ wsX00, w ∈ lw_tbl := fun w h => wsL_law_in w (inlX0 w h)
theorem inlX1 : ∀ w ∈ wsX10, w ∈ wsL_law := fun _ h => List.mem_append_left _ (List.mem_append_left _ (List.mem_append_left _ (List.mem_append_right _ h)))
theorem inX1 : ∀ w ∈ wsX10, w ∈ lw_tbl := fun w h => wsL_law_in w (inlX1 w h)
theorem inlX2 : ∀ w ∈ wsX20, w ∈ wsL_law := fun _ h => List.mem_append_left _ (List.mem_append_left _ (List.mem_append_right _ h))
theorem inX2 : ∀ w ∈ wsX20, w ∈ lw_tbl := fun w h => wsL_law_in w (inlX2 w h)
theorem kmr_1 {w : Cond} (h : w ∈ wsL_law_r1) : w ∈ wsL_law := (List.mem_append_left _ (List.mem_append_left _ (List.mem_append_left _ (List.mem_append_left _ (List.mem_append_left _ h)))))
theorem km_0 : Cond.classLink RL 7 RX1 ∈ wsL_law := kmr_1 (List.mem_of_getElem? (i := 0) rfl)
theorem km_1 : Cond.instantiable RX1 14 ∈ wsL_law := kmr_1 (List.mem_of_getElem? (i := 1) rfl)
theorem km_2 : Cond.initialized RX1 ∈ wsL_law := kmr_1 (List.mem_of_getElem? (i := 2) rfl)
theorem km_3 : Cond.classLink RL 18 RX2 ∈ wsL_law := kmr_1 (List.mem_of_getElem? (i := 3) rfl)
theorem km_4 : Cond.instantiable RX2 16 ∈ wsL_law := kmr_1 (List.mem_of_getElem? (i := 4) rfl)
theorem km_5 : Cond.initialized RX2 ∈ wsL_law := kmr_1 (List.mem_of_getElem? (i := 5) rfl)
theorem km_6 : Cond.methodLink RL 9 yL_cell ∈ wsL_law := kmr_1 (List.mem_of_getElem? (i := 6) rfl)
theorem km_7 : Cond.static yL_cell ∈ wsL_law := kmr_1 (List.mem_of_getElem? (i := 7) rfl)
theorem km_8 : Cond.initialized RL ∈ wsL_law := kmr_1 (List.mem_of_getElem? (i := 8) rfl)
theorem km_9 : Cond.code yL_cell cL_cell 2 (some .int) ∈ wsL_law := kmr_1 (List.mem_of_getElem? (i := 9) rfl)
theorem km_10 : Cond.methodLink RL 15 yX1_init ∈ wsL_law := kmr_1 (List.mem_of_getElem? (i := 10) rfl)
theorem km_11 : Cond.instanceMethod yX1_init ∈ wsL_law := kmr_1 (List.mem_of_getElem? (i := 11) rfl)
theorem km_12 : Cond.code yX1_init cX1_init 4 none ∈ wsL_law := kmr_1 (List.mem_of_getElem? (i := 12) rfl)
theorem km_13 : Cond.methodLink RX1 1 objectInit ∈ wsL_law := kmr_1 (List.mem_of_getElem? (i := 13) rfl)
theorem km_14 : Cond.instanceMethod objectInit ∈ wsL_law := kmr_1 (List.mem_of_getElem? (i := 14) rfl)
theorem km_15 : Cond.code objectInit ⟨#[0xb1]⟩ 1 none ∈ wsL_law := kmr_1 (List.mem_of_getElem? (i := 15) rfl)
theorem km_16 : Cond.methodLink RX1 9 Lib.Math.min.name ∈ wsL_law := kmr_1 (List.mem_of_getElem? (i := 16) rfl)
theorem km_17 : Cond.static Lib.Math.min.name ∈ wsL_law := kmr_1 (List.mem_of_getElem? (i := 17) rfl)
theorem km_18 : Cond.initialized "java/lang/Math" ∈ wsL_law := kmr_1 (List.mem_of_getElem? (i := 18) rfl)
theorem km_19 : Cond.code Lib.Math.min.name Lib.Math.min.code 2 (some .int) ∈ wsL_law := kmr_1 (List.mem_of_getElem? (i := 19) rfl)
theorem km_20 : Cond.methodLink RX1 15 Lib.Math.max.name ∈ wsL_law := kmr_1 (List.mem_of_getElem? (i := 20) rfl)
theorem km_21 : Cond.static Lib.Math.max.name ∈ wsL_law := kmr_1 (List.mem_of_getElem? (i := 21) rfl)
theorem km_22 : Cond.code Lib.Math.max.name Lib.Math.max.code 2 (some .int) ∈ wsL_law := kmr_1 (List.mem_of_getElem? (i := 22) rfl)
theorem km_23 : Cond.fieldLink RX1 18 "FloorQueue" "items" "I" ∈ wsL_law := kmr_1 (List.mem_of_getElem? (i := 23) rfl)
theorem kmr_2 {w : Cond} (h : w ∈ wsL_law_r2) : w ∈ wsL_law := (List.mem_append_left _ (List.mem_append_left _ (List.mem_append_left _ (List.mem_append_left _ (List.mem_append_right _ (List.mem_append_left _ h))))))
theorem km_24 : Cond.fieldLink RX1 22 "FloorQueue" "arcRoom" "I" ∈ wsL_law := kmr_2 (List.mem_of_getElem? (i := 0) rfl)
theorem km_25 : Cond.fieldLink RX1 25 "FloorQueue" "greatestLength" "I" ∈ wsL_law := kmr_2 (List.mem_of_getElem? (i := 1) rfl)
theorem km_26 : Cond.arrayClass .int ∈ wsL_law := kmr_2 (List.mem_of_getElem? (i := 2) rfl)
theorem km_27 : Cond.fieldLink RX1 28 "FloorQueue" "keys" "[I" ∈ wsL_law := kmr_2 (List.mem_of_getElem? (i := 3) rfl)
theorem km_28 : Cond.fieldLink RX1 32 "FloorQueue" "buckets" "[I" ∈ wsL_law := kmr_2 (List.mem_of_getElem? (i := 4) rfl)
theorem km_29 : Cond.fieldLink RX1 35 "FloorQueue" "members" "[I" ∈ wsL_law := kmr_2 (List.mem_of_getElem? (i := 5) rfl)
theorem km_30 : Cond.classLink RX1 38 RX0 ∈ wsL_law := kmr_2 (List.mem_of_getElem? (i := 6) rfl)
theorem km_31 : Cond.fieldLink RX1 40 "FloorQueue" "latestArcs" "[LFloorQueue$Arc;" ∈ wsL_law := kmr_2 (List.mem_of_getElem? (i := 7) rfl)
theorem km_32 : Cond.fieldLink RX1 44 "FloorQueue" "distances" "[I" ∈ wsL_law := kmr_2 (List.mem_of_getElem? (i := 8) rfl)
theorem km_33 : Cond.fieldLink RX1 47 "FloorQueue" "befores" "[I" ∈ wsL_law := kmr_2 (List.mem_of_getElem? (i := 9) rfl)
theorem km_34 : Cond.methodLink RX1 50 yJ7_fill_53178 ∈ wsL_law := kmr_2 (List.mem_of_getElem? (i := 10) rfl)
theorem km_35 : Cond.static yJ7_fill_53178 ∈ wsL_law := kmr_2 (List.mem_of_getElem? (i := 11) rfl)
theorem km_36 : Cond.initialized RJ7 ∈ wsL_law := kmr_2 (List.mem_of_getElem? (i := 12) rfl)
theorem km_37 : Cond.code yJ7_fill_53178 cJ7_fill_53178 4 none ∈ wsL_law := kmr_2 (List.mem_of_getElem? (i := 13) rfl)
theorem km_38 : Cond.methodLink RL 20 yX2_init ∈ wsL_law := kmr_2 (List.mem_of_getElem? (i := 14) rfl)
theorem km_39 : Cond.instanceMethod yX2_init ∈ wsL_law := kmr_2 (List.mem_of_getElem? (i := 15) rfl)
theorem km_40 : Cond.code yX2_init cX2_init 4 none ∈ wsL_law := kmr_2 (List.mem_of_getElem? (i := 16) rfl)
theorem km_41 : Cond.methodLink RX2 1 objectInit ∈ wsL_law := kmr_2 (List.mem_of_getElem? (i := 17) rfl)
theorem km_42 : Cond.fieldLink RX2 7 "FloorQueueModel" "keys" "[I" ∈ wsL_law := kmr_2 (List.mem_of_getElem? (i := 18) rfl)
theorem km_43 : Cond.fieldLink RX2 13 "FloorQueueModel" "froms" "[I" ∈ wsL_law := kmr_2 (List.mem_of_getElem? (i := 19) rfl)
theorem km_44 : Cond.fieldLink RX2 16 "FloorQueueModel" "tos" "[I" ∈ wsL_law := kmr_2 (List.mem_of_getElem? (i := 20) rfl)
theorem km_45 : Cond.fieldLink RX2 19 "FloorQueueModel" "lengths" "[I" ∈ wsL_law := kmr_2 (List.mem_of_getElem? (i := 21) rfl)
theorem km_46 : Cond.fieldLink RX2 22 "FloorQueueModel" "ways" "[I" ∈ wsL_law := kmr_2 (List.mem_of_getElem? (i := 22) rfl)
theorem km_47 : Cond.fieldLink RX2 25 "FloorQueueModel" "formers" "[I" ∈ wsL_law := kmr_2 (List.mem_of_getElem? (i := 23) rfl)
theorem kmr_3 {w : Cond} (h : w ∈ wsL_law_r3) : w ∈ wsL_law := (List.mem_append_left _ (List.mem_append_left _ (List.mem_append_left _ (List.mem_append_left _ (List.mem_append_right _ (List.mem_append_right _ (List.mem_append_left _ h)))))))
theorem km_48 : Cond.arrayClass .boolean ∈ wsL_law := kmr_3 (List.mem_of_getElem? (i := 0) rfl)
theorem km_49 : Cond.fieldLink RX2 28 "FloorQueueModel" "taken" "[Z" ∈ wsL_law := kmr_3 (List.mem_of_getElem? (i := 1) rfl)
theorem km_50 : Cond.fieldLink RX2 32 "FloorQueueModel" "near" "[Z" ∈ wsL_law := kmr_3 (List.mem_of_getElem? (i := 2) rfl)
theorem km_51 : Cond.fieldLink RX2 35 "FloorQueueModel" "items" "I" ∈ wsL_law := kmr_3 (List.mem_of_getElem? (i := 3) rfl)
theorem km_52 : Cond.fieldLink RX2 39 "FloorQueueModel" "mostArcs" "I" ∈ wsL_law := kmr_3 (List.mem_of_getElem? (i := 4) rfl)
theorem km_53 : Cond.fieldLink RX2 42 "FloorQueueModel" "mostLength" "I" ∈ wsL_law := kmr_3 (List.mem_of_getElem? (i := 5) rfl)
theorem km_54 : Cond.methodLink RX2 45 yX2_clear ∈ wsL_law := kmr_3 (List.mem_of_getElem? (i := 6) rfl)
theorem km_55 : Cond.instanceMethod yX2_clear ∈ wsL_law := kmr_3 (List.mem_of_getElem? (i := 7) rfl)
theorem km_56 : Cond.selects RX2 yX2_clear yX2_clear ∈ wsL_law := kmr_3 (List.mem_of_getElem? (i := 8) rfl)
theorem km_57 : Cond.code yX2_clear cX2_clear 2 none ∈ wsL_law := kmr_3 (List.mem_of_getElem? (i := 9) rfl)
theorem km_58 : Cond.fieldLink RX2 48 "FloorQueueModel" "lowest" "I" ∈ wsL_law := kmr_3 (List.mem_of_getElem? (i := 10) rfl)
theorem km_59 : Cond.methodLink RL 21 yX1_push ∈ wsL_law := kmr_3 (List.mem_of_getElem? (i := 11) rfl)
theorem km_60 : Cond.instanceMethod yX1_push ∈ wsL_law := kmr_3 (List.mem_of_getElem? (i := 12) rfl)
theorem km_61 : Cond.selects RX1 yX1_push yX1_push ∈ wsL_law := kmr_3 (List.mem_of_getElem? (i := 13) rfl)
theorem km_62 : Cond.code yX1_push cX1_push 3 (some .int) ∈ wsL_law := kmr_3 (List.mem_of_getElem? (i := 14) rfl)
theorem km_63 : Cond.fieldLink RX1 63 "FloorQueue" "floorKey" "I" ∈ wsL_law := kmr_3 (List.mem_of_getElem? (i := 15) rfl)
theorem km_64 : Cond.fieldLink RX1 66 "FloorQueue" "present" "I" ∈ wsL_law := kmr_3 (List.mem_of_getElem? (i := 16) rfl)
theorem km_65 : Cond.fieldLink RX1 69 "FloorQueue" "keyings" "I" ∈ wsL_law := kmr_3 (List.mem_of_getElem? (i := 17) rfl)
theorem km_66 : Cond.methodLink RX1 56 yX1_isItem ∈ wsL_law := kmr_3 (List.mem_of_getElem? (i := 18) rfl)
theorem km_67 : Cond.instanceMethod yX1_isItem ∈ wsL_law := kmr_3 (List.mem_of_getElem? (i := 19) rfl)
theorem km_68 : Cond.selects RX1 yX1_isItem yX1_isItem ∈ wsL_law := kmr_3 (List.mem_of_getElem? (i := 20) rfl)
theorem km_69 : Cond.code yX1_isItem cX1_isItem 2 (some .boolean) ∈ wsL_law := kmr_3 (List.mem_of_getElem? (i := 21) rfl)
theorem km_70 : Cond.methodLink RX1 60 yX1_isThere ∈ wsL_law := kmr_3 (List.mem_of_getElem? (i := 22) rfl)
theorem km_71 : Cond.instanceMethod yX1_isThere ∈ wsL_law := kmr_3 (List.mem_of_getElem? (i := 23) rfl)
theorem kmr_4 {w : Cond} (h : w ∈ wsL_law_r4) : w ∈ wsL_law := (List.mem_append_left _ (List.mem_append_left _ (List.mem_append_left _ (List.mem_append_left _ (List.mem_append_right _ (List.mem_append_right _ (List.mem_append_right _ (List.mem_append_left _ h))))))))
theorem km_72 : Cond.selects RX1 yX1_isThere yX1_isThere ∈ wsL_law := kmr_4 (List.mem_of_getElem? (i := 0) rfl)
theorem km_73 : Cond.code yX1_isThere cX1_isThere 2 (some .boolean) ∈ wsL_law := kmr_4 (List.mem_of_getElem? (i := 1) rfl)
theorem km_74 : Cond.methodLink RX1 72 yX1_putIntoBucket ∈ wsL_law := kmr_4 (List.mem_of_getElem? (i := 2) rfl)
theorem km_75 : Cond.instanceMethod yX1_putIntoBucket ∈ wsL_law := kmr_4 (List.mem_of_getElem? (i := 3) rfl)
theorem km_76 : Cond.selects RX1 yX1_putIntoBucket yX1_putIntoBucket ∈ wsL_law := kmr_4 (List.mem_of_getElem? (i := 4) rfl)
theorem km_77 : Cond.code yX1_putIntoBucket cX1_putIntoBucket 3 none ∈ wsL_law := kmr_4 (List.mem_of_getElem? (i := 5) rfl)
theorem km_78 : Cond.fieldLink RX1 93 "FloorQueue" "placings" "I" ∈ wsL_law := kmr_4 (List.mem_of_getElem? (i := 6) rfl)
theorem km_79 : Cond.methodLink RX1 128 yX1_leaveBucket ∈ wsL_law := kmr_4 (List.mem_of_getElem? (i := 7) rfl)
theorem km_80 : Cond.instanceMethod yX1_leaveBucket ∈ wsL_law := kmr_4 (List.mem_of_getElem? (i := 8) rfl)
theorem km_81 : Cond.selects RX1 yX1_leaveBucket yX1_leaveBucket ∈ wsL_law := kmr_4 (List.mem_of_getElem? (i := 9) rfl)
theorem km_82 : Cond.code yX1_leaveBucket cX1_leaveBucket 3 none ∈ wsL_law := kmr_4 (List.mem_of_getElem? (i := 10) rfl)
theorem km_83 : Cond.methodLink RX1 76 yX1_bucketFor ∈ wsL_law := kmr_4 (List.mem_of_getElem? (i := 11) rfl)
theorem km_84 : Cond.instanceMethod yX1_bucketFor ∈ wsL_law := kmr_4 (List.mem_of_getElem? (i := 12) rfl)
theorem km_85 : Cond.selects RX1 yX1_bucketFor yX1_bucketFor ∈ wsL_law := kmr_4 (List.mem_of_getElem? (i := 13) rfl)
theorem km_86 : Cond.code yX1_bucketFor cX1_bucketFor 2 (some .int) ∈ wsL_law := kmr_4 (List.mem_of_getElem? (i := 14) rfl)
theorem km_87 : Cond.methodLink RX1 123 yJ6_numberOfLeadingZeros_0f7a4 ∈ wsL_law := kmr_4 (List.mem_of_getElem? (i := 15) rfl)
theorem km_88 : Cond.static yJ6_numberOfLeadingZeros_0f7a4 ∈ wsL_law := kmr_4 (List.mem_of_getElem? (i := 16) rfl)
theorem km_89 : Cond.initialized RJ6 ∈ wsL_law := kmr_4 (List.mem_of_getElem? (i := 17) rfl)
theorem km_90 : Cond.code yJ6_numberOfLeadingZeros_0f7a4 cJ6_numberOfLeadingZeros_0f7a4 2 (some .int) ∈ wsL_law := kmr_4 (List.mem_of_getElem? (i := 18) rfl)
theorem km_91 : Cond.constant RJ6 264 (65536) ∈ wsL_law := kmr_4 (List.mem_of_getElem? (i := 19) rfl)
theorem km_92 : Cond.methodLink RL 25 yX2_push ∈ wsL_law := kmr_4 (List.mem_of_getElem? (i := 20) rfl)
theorem km_93 : Cond.instanceMethod yX2_push ∈ wsL_law := kmr_4 (List.mem_of_getElem? (i := 21) rfl)
theorem km_94 : Cond.selects RX2 yX2_push yX2_push ∈ wsL_law := kmr_4 (List.mem_of_getElem? (i := 22) rfl)
theorem km_95 : Cond.code yX2_push cX2_push 3 (some .int) ∈ wsL_law := kmr_4 (List.mem_of_getElem? (i := 23) rfl)
theorem kmr_5 {w : Cond} (h : w ∈ wsL_law_r5) : w ∈ wsL_law := (List.mem_append_left _ (List.mem_append_left _ (List.mem_append_left _ (List.mem_append_left _ (List.mem_append_right _ (List.mem_append_right _ (List.mem_append_right _ (List.mem_append_right _ (List.mem_append_left _ h)))))))))
theorem km_96 : Cond.fieldLink RX2 55 "FloorQueueModel" "placings" "I" ∈ wsL_law := kmr_5 (List.mem_of_getElem? (i := 0) rfl)
theorem km_97 : Cond.fieldLink RX2 58 "FloorQueueModel" "calls" "I" ∈ wsL_law := kmr_5 (List.mem_of_getElem? (i := 1) rfl)
theorem km_98 : Cond.methodLink RX2 51 yX2_isItem ∈ wsL_law := kmr_5 (List.mem_of_getElem? (i := 2) rfl)
theorem km_99 : Cond.instanceMethod yX2_isItem ∈ wsL_law := kmr_5 (List.mem_of_getElem? (i := 3) rfl)
theorem km_100 : Cond.selects RX2 yX2_isItem yX2_isItem ∈ wsL_law := kmr_5 (List.mem_of_getElem? (i := 4) rfl)
theorem km_101 : Cond.code yX2_isItem cX2_isItem 2 (some .boolean) ∈ wsL_law := kmr_5 (List.mem_of_getElem? (i := 5) rfl)
theorem km_102 : Cond.methodLink RL 26 yX1_lower ∈ wsL_law := kmr_5 (List.mem_of_getElem? (i := 6) rfl)
theorem km_103 : Cond.instanceMethod yX1_lower ∈ wsL_law := kmr_5 (List.mem_of_getElem? (i := 7) rfl)
theorem km_104 : Cond.selects RX1 yX1_lower yX1_lower ∈ wsL_law := kmr_5 (List.mem_of_getElem? (i := 8) rfl)
theorem km_105 : Cond.code yX1_lower cX1_lower 3 (some .int) ∈ wsL_law := kmr_5 (List.mem_of_getElem? (i := 9) rfl)
theorem km_106 : Cond.methodLink RL 29 yX2_lower ∈ wsL_law := kmr_5 (List.mem_of_getElem? (i := 10) rfl)
theorem km_107 : Cond.instanceMethod yX2_lower ∈ wsL_law := kmr_5 (List.mem_of_getElem? (i := 11) rfl)
theorem km_108 : Cond.selects RX2 yX2_lower yX2_lower ∈ wsL_law := kmr_5 (List.mem_of_getElem? (i := 12) rfl)
theorem km_109 : Cond.code yX2_lower cX2_lower 3 (some .int) ∈ wsL_law := kmr_5 (List.mem_of_getElem? (i := 13) rfl)
theorem km_110 : Cond.methodLink RX2 61 yX2_isThere ∈ wsL_law := kmr_5 (List.mem_of_getElem? (i := 14) rfl)
theorem km_111 : Cond.instanceMethod yX2_isThere ∈ wsL_law := kmr_5 (List.mem_of_getElem? (i := 15) rfl)
theorem km_112 : Cond.selects RX2 yX2_isThere yX2_isThere ∈ wsL_law := kmr_5 (List.mem_of_getElem? (i := 16) rfl)
theorem km_113 : Cond.code yX2_isThere cX2_isThere 2 (some .boolean) ∈ wsL_law := kmr_5 (List.mem_of_getElem? (i := 17) rfl)
theorem km_114 : Cond.methodLink RX2 64 yX2_unlike ∈ wsL_law := kmr_5 (List.mem_of_getElem? (i := 18) rfl)
theorem km_115 : Cond.static yX2_unlike ∈ wsL_law := kmr_5 (List.mem_of_getElem? (i := 19) rfl)
theorem km_116 : Cond.code yX2_unlike cX2_unlike 4 (some .int) ∈ wsL_law := kmr_5 (List.mem_of_getElem? (i := 20) rfl)
theorem km_117 : Cond.methodLink RL 30 yX1_pop ∈ wsL_law := kmr_5 (List.mem_of_getElem? (i := 21) rfl)
theorem km_118 : Cond.instanceMethod yX1_pop ∈ wsL_law := kmr_5 (List.mem_of_getElem? (i := 22) rfl)
theorem km_119 : Cond.selects RX1 yX1_pop yX1_pop ∈ wsL_law := kmr_5 (List.mem_of_getElem? (i := 23) rfl)
theorem kmr_6 {w : Cond} (h : w ∈ wsL_law_r6) : w ∈ wsL_law := (List.mem_append_left _ (List.mem_append_left _ (List.mem_append_left _ (List.mem_append_left _ (List.mem_append_right _ (List.mem_append_right _ (List.mem_append_right _ (List.mem_append_right _ (List.mem_append_right _ (List.mem_append_left _ h))))))))))
theorem km_120 : Cond.code yX1_pop cX1_pop 3 (some .int) ∈ wsL_law := kmr_6 (List.mem_of_getElem? (i := 0) rfl)
theorem km_121 : Cond.methodLink RX1 80 yX1_lowestBucket ∈ wsL_law := kmr_6 (List.mem_of_getElem? (i := 1) rfl)
theorem km_122 : Cond.instanceMethod yX1_lowestBucket ∈ wsL_law := kmr_6 (List.mem_of_getElem? (i := 2) rfl)
theorem km_123 : Cond.selects RX1 yX1_lowestBucket yX1_lowestBucket ∈ wsL_law := kmr_6 (List.mem_of_getElem? (i := 3) rfl)
theorem km_124 : Cond.code yX1_lowestBucket cX1_lowestBucket 2 (some .int) ∈ wsL_law := kmr_6 (List.mem_of_getElem? (i := 4) rfl)
theorem km_125 : Cond.methodLink RX1 84 yX1_leastItemIn ∈ wsL_law := kmr_6 (List.mem_of_getElem? (i := 5) rfl)
theorem km_126 : Cond.instanceMethod yX1_leastItemIn ∈ wsL_law := kmr_6 (List.mem_of_getElem? (i := 6) rfl)
theorem km_127 : Cond.selects RX1 yX1_leastItemIn yX1_leastItemIn ∈ wsL_law := kmr_6 (List.mem_of_getElem? (i := 7) rfl)
theorem km_128 : Cond.code yX1_leastItemIn cX1_leastItemIn 4 (some .int) ∈ wsL_law := kmr_6 (List.mem_of_getElem? (i := 8) rfl)
theorem km_129 : Cond.methodLink RX1 87 yX1_spread ∈ wsL_law := kmr_6 (List.mem_of_getElem? (i := 9) rfl)
theorem km_130 : Cond.instanceMethod yX1_spread ∈ wsL_law := kmr_6 (List.mem_of_getElem? (i := 10) rfl)
theorem km_131 : Cond.selects RX1 yX1_spread yX1_spread ∈ wsL_law := kmr_6 (List.mem_of_getElem? (i := 11) rfl)
theorem km_132 : Cond.code yX1_spread cX1_spread 3 none ∈ wsL_law := kmr_6 (List.mem_of_getElem? (i := 12) rfl)
theorem km_133 : Cond.methodLink RX1 90 yX1_takeOut ∈ wsL_law := kmr_6 (List.mem_of_getElem? (i := 13) rfl)
theorem km_134 : Cond.instanceMethod yX1_takeOut ∈ wsL_law := kmr_6 (List.mem_of_getElem? (i := 14) rfl)
theorem km_135 : Cond.selects RX1 yX1_takeOut yX1_takeOut ∈ wsL_law := kmr_6 (List.mem_of_getElem? (i := 15) rfl)
theorem km_136 : Cond.code yX1_takeOut cX1_takeOut 2 none ∈ wsL_law := kmr_6 (List.mem_of_getElem? (i := 16) rfl)
theorem km_137 : Cond.methodLink RL 34 yX2_pop ∈ wsL_law := kmr_6 (List.mem_of_getElem? (i := 17) rfl)
theorem km_138 : Cond.instanceMethod yX2_pop ∈ wsL_law := kmr_6 (List.mem_of_getElem? (i := 18) rfl)
theorem km_139 : Cond.selects RX2 yX2_pop yX2_pop ∈ wsL_law := kmr_6 (List.mem_of_getElem? (i := 19) rfl)
theorem km_140 : Cond.code yX2_pop cX2_pop 4 (some .int) ∈ wsL_law := kmr_6 (List.mem_of_getElem? (i := 20) rfl)
theorem km_141 : Cond.methodLink RL 35 yX1_floor ∈ wsL_law := kmr_6 (List.mem_of_getElem? (i := 21) rfl)
theorem km_142 : Cond.instanceMethod yX1_floor ∈ wsL_law := kmr_6 (List.mem_of_getElem? (i := 22) rfl)
theorem km_143 : Cond.selects RX1 yX1_floor yX1_floor ∈ wsL_law := kmr_6 (List.mem_of_getElem? (i := 23) rfl)
theorem kmr_7 {w : Cond} (h : w ∈ wsL_law_r7) : w ∈ wsL_law := (List.mem_append_left _ (List.mem_append_left _ (List.mem_append_left _ (List.mem_append_left _ (List.mem_append_right _ (List.mem_append_right _ (List.mem_append_right _ (List.mem_append_right _ (List.mem_append_right _ (List.mem_append_right _ (List.mem_append_left _ h)))))))))))
theorem km_144 : Cond.code yX1_floor cX1_floor 1 (some .int) ∈ wsL_law := kmr_7 (List.mem_of_getElem? (i := 0) rfl)
theorem km_145 : Cond.methodLink RL 38 yX2_floor ∈ wsL_law := kmr_7 (List.mem_of_getElem? (i := 1) rfl)
theorem km_146 : Cond.instanceMethod yX2_floor ∈ wsL_law := kmr_7 (List.mem_of_getElem? (i := 2) rfl)
theorem km_147 : Cond.selects RX2 yX2_floor yX2_floor ∈ wsL_law := kmr_7 (List.mem_of_getElem? (i := 3) rfl)
theorem km_148 : Cond.code yX2_floor cX2_floor 1 (some .int) ∈ wsL_law := kmr_7 (List.mem_of_getElem? (i := 4) rfl)
theorem km_149 : Cond.methodLink RL 39 yX1_size ∈ wsL_law := kmr_7 (List.mem_of_getElem? (i := 5) rfl)
theorem km_150 : Cond.instanceMethod yX1_size ∈ wsL_law := kmr_7 (List.mem_of_getElem? (i := 6) rfl)
theorem km_151 : Cond.selects RX1 yX1_size yX1_size ∈ wsL_law := kmr_7 (List.mem_of_getElem? (i := 7) rfl)
theorem km_152 : Cond.code yX1_size cX1_size 1 (some .int) ∈ wsL_law := kmr_7 (List.mem_of_getElem? (i := 8) rfl)
theorem km_153 : Cond.methodLink RL 42 yX2_size ∈ wsL_law := kmr_7 (List.mem_of_getElem? (i := 9) rfl)
theorem km_154 : Cond.instanceMethod yX2_size ∈ wsL_law := kmr_7 (List.mem_of_getElem? (i := 10) rfl)
theorem km_155 : Cond.selects RX2 yX2_size yX2_size ∈ wsL_law := kmr_7 (List.mem_of_getElem? (i := 11) rfl)
theorem km_156 : Cond.code yX2_size cX2_size 3 (some .int) ∈ wsL_law := kmr_7 (List.mem_of_getElem? (i := 12) rfl)
theorem km_157 : Cond.methodLink RL 43 yX1_key ∈ wsL_law := kmr_7 (List.mem_of_getElem? (i := 13) rfl)
theorem km_158 : Cond.instanceMethod yX1_key ∈ wsL_law := kmr_7 (List.mem_of_getElem? (i := 14) rfl)
theorem km_159 : Cond.selects RX1 yX1_key yX1_key ∈ wsL_law := kmr_7 (List.mem_of_getElem? (i := 15) rfl)
theorem km_160 : Cond.code yX1_key cX1_key 2 (some .int) ∈ wsL_law := kmr_7 (List.mem_of_getElem? (i := 16) rfl)
theorem km_161 : Cond.methodLink RL 47 yX2_key ∈ wsL_law := kmr_7 (List.mem_of_getElem? (i := 17) rfl)
theorem km_162 : Cond.instanceMethod yX2_key ∈ wsL_law := kmr_7 (List.mem_of_getElem? (i := 18) rfl)
theorem km_163 : Cond.selects RX2 yX2_key yX2_key ∈ wsL_law := kmr_7 (List.mem_of_getElem? (i := 19) rfl)
theorem km_164 : Cond.code yX2_key cX2_key 2 (some .int) ∈ wsL_law := kmr_7 (List.mem_of_getElem? (i := 20) rfl)
theorem km_165 : Cond.methodLink RL 48 yX1_bucket ∈ wsL_law := kmr_7 (List.mem_of_getElem? (i := 21) rfl)
theorem km_166 : Cond.instanceMethod yX1_bucket ∈ wsL_law := kmr_7 (List.mem_of_getElem? (i := 22) rfl)
theorem km_167 : Cond.selects RX1 yX1_bucket yX1_bucket ∈ wsL_law := kmr_7 (List.mem_of_getElem? (i := 23) rfl)
theorem kmr_8 {w : Cond} (h : w ∈ wsL_law_r8) : w ∈ wsL_law := (List.mem_append_left _ (List.mem_append_left _ (List.mem_append_left _ (List.mem_append_left _ (List.mem_append_right _ (List.mem_append_right _ (List.mem_append_right _ (List.mem_append_right _ (List.mem_append_right _ (List.mem_append_right _ (List.mem_append_right _ (List.mem_append_left _ h))))))))))))
theorem km_168 : Cond.code yX1_bucket cX1_bucket 2 (some .int) ∈ wsL_law := kmr_8 (List.mem_of_getElem? (i := 0) rfl)
theorem km_169 : Cond.methodLink RL 51 yX2_bucket ∈ wsL_law := kmr_8 (List.mem_of_getElem? (i := 1) rfl)
theorem km_170 : Cond.instanceMethod yX2_bucket ∈ wsL_law := kmr_8 (List.mem_of_getElem? (i := 2) rfl)
theorem km_171 : Cond.selects RX2 yX2_bucket yX2_bucket ∈ wsL_law := kmr_8 (List.mem_of_getElem? (i := 3) rfl)
theorem km_172 : Cond.code yX2_bucket cX2_bucket 2 (some .int) ∈ wsL_law := kmr_8 (List.mem_of_getElem? (i := 4) rfl)
theorem km_173 : Cond.methodLink RL 52 yX1_many ∈ wsL_law := kmr_8 (List.mem_of_getElem? (i := 5) rfl)
theorem km_174 : Cond.instanceMethod yX1_many ∈ wsL_law := kmr_8 (List.mem_of_getElem? (i := 6) rfl)
theorem km_175 : Cond.selects RX1 yX1_many yX1_many ∈ wsL_law := kmr_8 (List.mem_of_getElem? (i := 7) rfl)
theorem km_176 : Cond.code yX1_many cX1_many 2 (some .int) ∈ wsL_law := kmr_8 (List.mem_of_getElem? (i := 8) rfl)
theorem km_177 : Cond.methodLink RL 55 yX2_many ∈ wsL_law := kmr_8 (List.mem_of_getElem? (i := 9) rfl)
theorem km_178 : Cond.instanceMethod yX2_many ∈ wsL_law := kmr_8 (List.mem_of_getElem? (i := 10) rfl)
theorem km_179 : Cond.selects RX2 yX2_many yX2_many ∈ wsL_law := kmr_8 (List.mem_of_getElem? (i := 11) rfl)
theorem km_180 : Cond.code yX2_many cX2_many 4 (some .int) ∈ wsL_law := kmr_8 (List.mem_of_getElem? (i := 12) rfl)
theorem km_181 : Cond.methodLink RL 56 yX1_placed ∈ wsL_law := kmr_8 (List.mem_of_getElem? (i := 13) rfl)
theorem km_182 : Cond.instanceMethod yX1_placed ∈ wsL_law := kmr_8 (List.mem_of_getElem? (i := 14) rfl)
theorem km_183 : Cond.selects RX1 yX1_placed yX1_placed ∈ wsL_law := kmr_8 (List.mem_of_getElem? (i := 15) rfl)
theorem km_184 : Cond.code yX1_placed cX1_placed 1 (some .int) ∈ wsL_law := kmr_8 (List.mem_of_getElem? (i := 16) rfl)
theorem km_185 : Cond.methodLink RL 59 yX2_placed ∈ wsL_law := kmr_8 (List.mem_of_getElem? (i := 17) rfl)
theorem km_186 : Cond.instanceMethod yX2_placed ∈ wsL_law := kmr_8 (List.mem_of_getElem? (i := 18) rfl)
theorem km_187 : Cond.selects RX2 yX2_placed yX2_placed ∈ wsL_law := kmr_8 (List.mem_of_getElem? (i := 19) rfl)
theorem km_188 : Cond.code yX2_placed cX2_placed 1 (some .int) ∈ wsL_law := kmr_8 (List.mem_of_getElem? (i := 20) rfl)
theorem km_189 : Cond.methodLink RL 60 yX1_arc ∈ wsL_law := kmr_8 (List.mem_of_getElem? (i := 21) rfl)
theorem km_190 : Cond.instanceMethod yX1_arc ∈ wsL_law := kmr_8 (List.mem_of_getElem? (i := 22) rfl)
theorem km_191 : Cond.selects RX1 yX1_arc yX1_arc ∈ wsL_law := kmr_8 (List.mem_of_getElem? (i := 23) rfl)
theorem kmr_9 {w : Cond} (h : w ∈ wsL_law_r9) : w ∈ wsL_law := (List.mem_append_left _ (List.mem_append_left _ (List.mem_append_left _ (List.mem_append_left _ (List.mem_append_right _ (List.mem_append_right _ (List.mem_append_right _ (List.mem_append_right _ (List.mem_append_right _ (List.mem_append_right _ (List.mem_append_right _ (List.mem_append_right _ (List.mem_append_left _ h)))))))))))))
theorem km_192 : Cond.code yX1_arc cX1_arc 4 (some .int) ∈ wsL_law := kmr_9 (List.mem_of_getElem? (i := 0) rfl)
theorem km_193 : Cond.fieldLink RX1 96 "FloorQueue" "arcs" "I" ∈ wsL_law := kmr_9 (List.mem_of_getElem? (i := 1) rfl)
theorem km_194 : Cond.instantiable RX0 3 ∈ wsL_law := kmr_9 (List.mem_of_getElem? (i := 2) rfl)
theorem km_195 : Cond.initialized RX0 ∈ wsL_law := kmr_9 (List.mem_of_getElem? (i := 3) rfl)
theorem km_196 : Cond.instanceMethod yX0_init ∈ wsL_law := kmr_9 (List.mem_of_getElem? (i := 4) rfl)
theorem km_197 : Cond.code yX0_init cX0_init 4 none ∈ wsL_law := kmr_9 (List.mem_of_getElem? (i := 5) rfl)
theorem km_198 : Cond.methodLink RX0 1 objectInit ∈ wsL_law := kmr_9 (List.mem_of_getElem? (i := 6) rfl)
theorem km_199 : Cond.fieldLink RX0 7 "FloorQueue$Arc" "end" "I" ∈ wsL_law := kmr_9 (List.mem_of_getElem? (i := 7) rfl)
theorem km_200 : Cond.fieldLink RX0 13 "FloorQueue$Arc" "length" "I" ∈ wsL_law := kmr_9 (List.mem_of_getElem? (i := 8) rfl)
theorem km_201 : Cond.fieldLink RX0 16 "FloorQueue$Arc" "earlier" "LFloorQueue$Arc;" ∈ wsL_law := kmr_9 (List.mem_of_getElem? (i := 9) rfl)
theorem km_202 : Cond.methodLink RX1 102 yX1_forgetWays ∈ wsL_law := kmr_9 (List.mem_of_getElem? (i := 10) rfl)
theorem km_203 : Cond.instanceMethod yX1_forgetWays ∈ wsL_law := kmr_9 (List.mem_of_getElem? (i := 11) rfl)
theorem km_204 : Cond.selects RX1 yX1_forgetWays yX1_forgetWays ∈ wsL_law := kmr_9 (List.mem_of_getElem? (i := 12) rfl)
theorem km_205 : Cond.code yX1_forgetWays cX1_forgetWays 1 none ∈ wsL_law := kmr_9 (List.mem_of_getElem? (i := 13) rfl)
theorem km_206 : Cond.methodLink RL 64 yX2_arc ∈ wsL_law := kmr_9 (List.mem_of_getElem? (i := 14) rfl)
theorem km_207 : Cond.instanceMethod yX2_arc ∈ wsL_law := kmr_9 (List.mem_of_getElem? (i := 15) rfl)
theorem km_208 : Cond.selects RX2 yX2_arc yX2_arc ∈ wsL_law := kmr_9 (List.mem_of_getElem? (i := 16) rfl)
theorem km_209 : Cond.code yX2_arc cX2_arc 4 (some .int) ∈ wsL_law := kmr_9 (List.mem_of_getElem? (i := 17) rfl)
theorem km_210 : Cond.fieldLink RX2 68 "FloorQueueModel" "arcs" "I" ∈ wsL_law := kmr_9 (List.mem_of_getElem? (i := 18) rfl)
theorem km_211 : Cond.fieldLink RX2 71 "FloorQueueModel" "hasWays" "Z" ∈ wsL_law := kmr_9 (List.mem_of_getElem? (i := 19) rfl)
theorem km_212 : Cond.methodLink RL 65 yX1_run ∈ wsL_law := kmr_9 (List.mem_of_getElem? (i := 20) rfl)
theorem km_213 : Cond.instanceMethod yX1_run ∈ wsL_law := kmr_9 (List.mem_of_getElem? (i := 21) rfl)
theorem km_214 : Cond.selects RX1 yX1_run yX1_run ∈ wsL_law := kmr_9 (List.mem_of_getElem? (i := 22) rfl)
theorem km_215 : Cond.code yX1_run cX1_run 3 (some .int) ∈ wsL_law := kmr_9 (List.mem_of_getElem? (i := 23) rfl)
theorem kmr_10 {w : Cond} (h : w ∈ wsL_law_r10) : w ∈ wsL_law := (List.mem_append_left _ (List.mem_append_left _ (List.mem_append_left _ (List.mem_append_left _ (List.mem_append_right _ (List.mem_append_right _ (List.mem_append_right _ (List.mem_append_right _ (List.mem_append_right _ (List.mem_append_right _ (List.mem_append_right _ (List.mem_append_right _ (List.mem_append_right _ (List.mem_append_left _ h))))))))))))))
theorem km_216 : Cond.methodLink RX1 105 yX1_emptyQueue ∈ wsL_law := kmr_10 (List.mem_of_getElem? (i := 0) rfl)
theorem km_217 : Cond.instanceMethod yX1_emptyQueue ∈ wsL_law := kmr_10 (List.mem_of_getElem? (i := 1) rfl)
theorem km_218 : Cond.selects RX1 yX1_emptyQueue yX1_emptyQueue ∈ wsL_law := kmr_10 (List.mem_of_getElem? (i := 2) rfl)
theorem km_219 : Cond.code yX1_emptyQueue cX1_emptyQueue 1 none ∈ wsL_law := kmr_10 (List.mem_of_getElem? (i := 3) rfl)
theorem km_220 : Cond.methodLink RX1 108 yX1_push ∈ wsL_law := kmr_10 (List.mem_of_getElem? (i := 4) rfl)
theorem km_221 : Cond.methodLink RX1 111 yX1_takeNext ∈ wsL_law := kmr_10 (List.mem_of_getElem? (i := 5) rfl)
theorem km_222 : Cond.instanceMethod yX1_takeNext ∈ wsL_law := kmr_10 (List.mem_of_getElem? (i := 6) rfl)
theorem km_223 : Cond.selects RX1 yX1_takeNext yX1_takeNext ∈ wsL_law := kmr_10 (List.mem_of_getElem? (i := 7) rfl)
theorem km_224 : Cond.code yX1_takeNext cX1_takeNext 3 none ∈ wsL_law := kmr_10 (List.mem_of_getElem? (i := 8) rfl)
theorem km_225 : Cond.methodLink RX1 131 yX1_pop ∈ wsL_law := kmr_10 (List.mem_of_getElem? (i := 9) rfl)
theorem km_226 : Cond.methodLink RX1 134 yX1_tryWay ∈ wsL_law := kmr_10 (List.mem_of_getElem? (i := 10) rfl)
theorem km_227 : Cond.instanceMethod yX1_tryWay ∈ wsL_law := kmr_10 (List.mem_of_getElem? (i := 11) rfl)
theorem km_228 : Cond.selects RX1 yX1_tryWay yX1_tryWay ∈ wsL_law := kmr_10 (List.mem_of_getElem? (i := 12) rfl)
theorem km_229 : Cond.code yX1_tryWay cX1_tryWay 6 none ∈ wsL_law := kmr_10 (List.mem_of_getElem? (i := 13) rfl)
theorem km_230 : Cond.constantLong RX1 148 (2147483647) ∈ wsL_law := kmr_10 (List.mem_of_getElem? (i := 14) rfl)
theorem km_231 : Cond.methodLink RX1 150 yX1_lower ∈ wsL_law := kmr_10 (List.mem_of_getElem? (i := 15) rfl)
theorem km_232 : Cond.methodLink RX1 114 yX1_isSomeWayTooLong ∈ wsL_law := kmr_10 (List.mem_of_getElem? (i := 16) rfl)
theorem km_233 : Cond.instanceMethod yX1_isSomeWayTooLong ∈ wsL_law := kmr_10 (List.mem_of_getElem? (i := 17) rfl)
theorem km_234 : Cond.selects RX1 yX1_isSomeWayTooLong yX1_isSomeWayTooLong ∈ wsL_law := kmr_10 (List.mem_of_getElem? (i := 18) rfl)
theorem km_235 : Cond.code yX1_isSomeWayTooLong cX1_isSomeWayTooLong 2 (some .boolean) ∈ wsL_law := kmr_10 (List.mem_of_getElem? (i := 19) rfl)
theorem km_236 : Cond.methodLink RX1 153 yX1_leadsToUntaken ∈ wsL_law := kmr_10 (List.mem_of_getElem? (i := 20) rfl)
theorem km_237 : Cond.instanceMethod yX1_leadsToUntaken ∈ wsL_law := kmr_10 (List.mem_of_getElem? (i := 21) rfl)
theorem km_238 : Cond.selects RX1 yX1_leadsToUntaken yX1_leadsToUntaken ∈ wsL_law := kmr_10 (List.mem_of_getElem? (i := 22) rfl)
theorem km_239 : Cond.code yX1_leadsToUntaken cX1_leadsToUntaken 3 (some .boolean) ∈ wsL_law := kmr_10 (List.mem_of_getElem? (i := 23) rfl)
theorem kmr_11 {w : Cond} (h : w ∈ wsL_law_r11) : w ∈ wsL_law := (List.mem_append_left _ (List.mem_append_left _ (List.mem_append_left _ (List.mem_append_left _ (List.mem_append_right _ (List.mem_append_right _ (List.mem_append_right _ (List.mem_append_right _ (List.mem_append_right _ (List.mem_append_right _ (List.mem_append_right _ (List.mem_append_right _ (List.mem_append_right _ (List.mem_append_right _ (List.mem_append_left _ h)))))))))))))))
theorem km_240 : Cond.methodLink RL 68 yX2_run ∈ wsL_law := kmr_11 (List.mem_of_getElem? (i := 0) rfl)
theorem km_241 : Cond.instanceMethod yX2_run ∈ wsL_law := kmr_11 (List.mem_of_getElem? (i := 1) rfl)
theorem km_242 : Cond.selects RX2 yX2_run yX2_run ∈ wsL_law := kmr_11 (List.mem_of_getElem? (i := 2) rfl)
theorem km_243 : Cond.code yX2_run cX2_run 5 (some .int) ∈ wsL_law := kmr_11 (List.mem_of_getElem? (i := 3) rfl)
theorem km_244 : Cond.constant RX2 87 (2147483647) ∈ wsL_law := kmr_11 (List.mem_of_getElem? (i := 4) rfl)
theorem km_245 : Cond.methodLink RX2 77 yX2_push ∈ wsL_law := kmr_11 (List.mem_of_getElem? (i := 5) rfl)
theorem km_246 : Cond.methodLink RX2 83 yX2_size ∈ wsL_law := kmr_11 (List.mem_of_getElem? (i := 6) rfl)
theorem km_247 : Cond.methodLink RX2 88 yX2_pop ∈ wsL_law := kmr_11 (List.mem_of_getElem? (i := 7) rfl)
theorem km_248 : Cond.methodLink RX2 91 yX2_reach ∈ wsL_law := kmr_11 (List.mem_of_getElem? (i := 8) rfl)
theorem km_249 : Cond.instanceMethod yX2_reach ∈ wsL_law := kmr_11 (List.mem_of_getElem? (i := 9) rfl)
theorem km_250 : Cond.selects RX2 yX2_reach yX2_reach ∈ wsL_law := kmr_11 (List.mem_of_getElem? (i := 10) rfl)
theorem km_251 : Cond.code yX2_reach cX2_reach 6 none ∈ wsL_law := kmr_11 (List.mem_of_getElem? (i := 11) rfl)
theorem km_252 : Cond.constantLong RX2 75 (2147483647) ∈ wsL_law := kmr_11 (List.mem_of_getElem? (i := 12) rfl)
theorem km_253 : Cond.methodLink RX2 80 yX2_lower ∈ wsL_law := kmr_11 (List.mem_of_getElem? (i := 13) rfl)
theorem km_254 : Cond.methodLink RX2 95 yX2_spread ∈ wsL_law := kmr_11 (List.mem_of_getElem? (i := 14) rfl)
theorem km_255 : Cond.instanceMethod yX2_spread ∈ wsL_law := kmr_11 (List.mem_of_getElem? (i := 15) rfl)
theorem km_256 : Cond.selects RX2 yX2_spread yX2_spread ∈ wsL_law := kmr_11 (List.mem_of_getElem? (i := 16) rfl)
theorem km_257 : Cond.code yX2_spread cX2_spread 4 none ∈ wsL_law := kmr_11 (List.mem_of_getElem? (i := 17) rfl)
theorem km_258 : Cond.methodLink RL 69 yX1_distance ∈ wsL_law := kmr_11 (List.mem_of_getElem? (i := 18) rfl)
theorem km_259 : Cond.instanceMethod yX1_distance ∈ wsL_law := kmr_11 (List.mem_of_getElem? (i := 19) rfl)
theorem km_260 : Cond.selects RX1 yX1_distance yX1_distance ∈ wsL_law := kmr_11 (List.mem_of_getElem? (i := 20) rfl)
theorem km_261 : Cond.code yX1_distance cX1_distance 2 (some .int) ∈ wsL_law := kmr_11 (List.mem_of_getElem? (i := 21) rfl)
theorem km_262 : Cond.methodLink RL 72 yX2_distance ∈ wsL_law := kmr_11 (List.mem_of_getElem? (i := 22) rfl)
theorem km_263 : Cond.instanceMethod yX2_distance ∈ wsL_law := kmr_11 (List.mem_of_getElem? (i := 23) rfl)
theorem kmr_12 {w : Cond} (h : w ∈ wsL_law_r12) : w ∈ wsL_law := (List.mem_append_left _ (List.mem_append_left _ (List.mem_append_left _ (List.mem_append_left _ (List.mem_append_right _ (List.mem_append_right _ (List.mem_append_right _ (List.mem_append_right _ (List.mem_append_right _ (List.mem_append_right _ (List.mem_append_right _ (List.mem_append_right _ (List.mem_append_right _ (List.mem_append_right _ (List.mem_append_right _ (List.mem_append_left _ h))))))))))))))))
theorem km_264 : Cond.selects RX2 yX2_distance yX2_distance ∈ wsL_law := kmr_12 (List.mem_of_getElem? (i := 0) rfl)
theorem km_265 : Cond.code yX2_distance cX2_distance 2 (some .int) ∈ wsL_law := kmr_12 (List.mem_of_getElem? (i := 1) rfl)
theorem km_266 : Cond.methodLink RL 73 yX1_before ∈ wsL_law := kmr_12 (List.mem_of_getElem? (i := 2) rfl)
theorem km_267 : Cond.instanceMethod yX1_before ∈ wsL_law := kmr_12 (List.mem_of_getElem? (i := 3) rfl)
theorem km_268 : Cond.selects RX1 yX1_before yX1_before ∈ wsL_law := kmr_12 (List.mem_of_getElem? (i := 4) rfl)
theorem km_269 : Cond.code yX1_before cX1_before 2 (some .int) ∈ wsL_law := kmr_12 (List.mem_of_getElem? (i := 5) rfl)
theorem km_270 : Cond.methodLink RL 76 yX2_before ∈ wsL_law := kmr_12 (List.mem_of_getElem? (i := 6) rfl)
theorem km_271 : Cond.instanceMethod yX2_before ∈ wsL_law := kmr_12 (List.mem_of_getElem? (i := 7) rfl)
theorem km_272 : Cond.selects RX2 yX2_before yX2_before ∈ wsL_law := kmr_12 (List.mem_of_getElem? (i := 8) rfl)
theorem km_273 : Cond.code yX2_before cX2_before 2 (some .int) ∈ wsL_law := kmr_12 (List.mem_of_getElem? (i := 9) rfl)
theorem km_274 : Cond.methodLink RL 77 yX1_sound ∈ wsL_law := kmr_12 (List.mem_of_getElem? (i := 10) rfl)
theorem km_275 : Cond.instanceMethod yX1_sound ∈ wsL_law := kmr_12 (List.mem_of_getElem? (i := 11) rfl)
theorem km_276 : Cond.selects RX1 yX1_sound yX1_sound ∈ wsL_law := kmr_12 (List.mem_of_getElem? (i := 12) rfl)
theorem km_277 : Cond.code yX1_sound cX1_sound 2 (some .boolean) ∈ wsL_law := kmr_12 (List.mem_of_getElem? (i := 13) rfl)
theorem km_278 : Cond.constantLong RX1 121 (32) ∈ wsL_law := kmr_12 (List.mem_of_getElem? (i := 14) rfl)
theorem km_279 : Cond.methodLink RX1 118 yX1_isWhereItBelongs ∈ wsL_law := kmr_12 (List.mem_of_getElem? (i := 15) rfl)
theorem km_280 : Cond.instanceMethod yX1_isWhereItBelongs ∈ wsL_law := kmr_12 (List.mem_of_getElem? (i := 16) rfl)
theorem km_281 : Cond.selects RX1 yX1_isWhereItBelongs yX1_isWhereItBelongs ∈ wsL_law := kmr_12 (List.mem_of_getElem? (i := 17) rfl)
theorem km_282 : Cond.code yX1_isWhereItBelongs cX1_isWhereItBelongs 2 (some .boolean) ∈ wsL_law := kmr_12 (List.mem_of_getElem? (i := 18) rfl)
theorem km_283 : Cond.methodLink RL 81 yX2_sound ∈ wsL_law := kmr_12 (List.mem_of_getElem? (i := 19) rfl)
theorem km_284 : Cond.instanceMethod yX2_sound ∈ wsL_law := kmr_12 (List.mem_of_getElem? (i := 20) rfl)
theorem km_285 : Cond.selects RX2 yX2_sound yX2_sound ∈ wsL_law := kmr_12 (List.mem_of_getElem? (i := 21) rfl)
theorem km_286 : Cond.code yX2_sound cX2_sound 1 (some .boolean) ∈ wsL_law := kmr_12 (List.mem_of_getElem? (i := 22) rfl)
theorem km_287 : Cond.methodLink RL 82 yX1_count ∈ wsL_law := kmr_12 (List.mem_of_getElem? (i := 23) rfl)
theorem kmr_13 {w : Cond} (h : w ∈ wsL_law_r13) : w ∈ wsL_law := (List.mem_append_left _ (List.mem_append_left _ (List.mem_append_left _ (List.mem_append_left _ (List.mem_append_right _ (List.mem_append_right _ (List.mem_append_right _ (List.mem_append_right _ (List.mem_append_right _ (List.mem_append_right _ (List.mem_append_right _ (List.mem_append_right _ (List.mem_append_right _ (List.mem_append_right _ (List.mem_append_right _ (List.mem_append_right _ h))))))))))))))))
theorem km_288 : Cond.instanceMethod yX1_count ∈ wsL_law := kmr_13 (List.mem_of_getElem? (i := 0) rfl)
theorem km_289 : Cond.selects RX1 yX1_count yX1_count ∈ wsL_law := kmr_13 (List.mem_of_getElem? (i := 1) rfl)
theorem km_290 : Cond.code yX1_count cX1_count 2 (some .int) ∈ wsL_law := kmr_13 (List.mem_of_getElem? (i := 2) rfl)
theorem km_291 : Cond.methodLink RL 85 yX2_count ∈ wsL_law := kmr_13 (List.mem_of_getElem? (i := 3) rfl)
theorem km_292 : Cond.instanceMethod yX2_count ∈ wsL_law := kmr_13 (List.mem_of_getElem? (i := 4) rfl)
theorem km_293 : Cond.selects RX2 yX2_count yX2_count ∈ wsL_law := kmr_13 (List.mem_of_getElem? (i := 5) rfl)
theorem km_294 : Cond.code yX2_count cX2_count 2 (some .int) ∈ wsL_law := kmr_13 (List.mem_of_getElem? (i := 6) rfl)
set_option maxRecDepth 20000 in
theorem km_good : wsL_law.all goodWord = true := by decide +kernel
theorem km_in {c : Cond} (h : c ∈ wsL_law) : GoodIn wsL_law (c :: wsL_law) := fun w hw => by
  have hm : w ∈ wsL_law := (List.mem_cons.mp hw).elim (fun e => e ▸ h) id
  exact ⟨hm, good_of_word (List.all_eq_true.mp km_good w hm)⟩
theorem km_app {a b : List Cond} (ha : ∀ w ∈ a, w ∈ wsL_law) (hb : GoodIn wsL_law b) : GoodIn wsL_law (a ++ b) := fun w hw => (List.mem_append.mp hw).elim (fun h => ⟨ha w h, good_of_word (List.all_eq_true.mp km_good w (ha w h))⟩) (hb w)
theorem km_four {a b c d : Cond} (ha : a ∈ wsL_law) (hb : b ∈ wsL_law) (hc : c ∈ wsL_law) (hd : d ∈ wsL_law) : ∀ w ∈ ([a, b, c, d] : List Cond), w ∈ wsL_law := fun w h => by
  simp only [List.mem_cons, List.not_mem_nil, or_false] at h
  rcases h with rfl | rfl | rfl | rfl <;> assumption
theorem km_three {a b c : Cond} (ha : a ∈ wsL_law) (hb : b ∈ wsL_law) (hc : c ∈ wsL_law) : ∀ w ∈ ([a, b, c] : List Cond), w ∈ wsL_law := fun w h => by
  simp only [List.mem_cons, List.not_mem_nil, or_false] at h
  rcases h with rfl | rfl | rfl <;> assumption
