section
-- ===== PART A: goes FIRST, ahead of the names: the tables' words, and 'selects' of the private methods out of them =====
/-- a private method of a class that the tables say can be made, by its rows of tables_1 -/
def lw_okq (q : MethodName × Nat) : Prop := (q.1.cls ≠ "java/lang/invoke/MethodHandle" ∧ q.1.cls ≠ "java/lang/invoke/VarHandle") ∧ Cond.instantiable q.1.cls q.2 ∈ tables_1 ∧ Cond.privateMethod q.1 ∈ tables_1 ∧ Cond.instanceMethod q.1 ∈ tables_1
theorem lw_p0 : lw_okq (⟨"FloorQueue", "isItem", "(I)Z"⟩, 14) := ⟨⟨by decide +kernel, by decide +kernel⟩, List.mem_of_getElem? (i := 8) (by decide +kernel), List.mem_of_getElem? (i := 75) (by decide +kernel), List.mem_of_getElem? (i := 76) (by decide +kernel)⟩
theorem lw_p1 : lw_okq (⟨"FloorQueue", "isThere", "(I)Z"⟩, 14) := ⟨⟨by decide +kernel, by decide +kernel⟩, List.mem_of_getElem? (i := 8) (by decide +kernel), List.mem_of_getElem? (i := 79) (by decide +kernel), List.mem_of_getElem? (i := 80) (by decide +kernel)⟩
theorem lw_p2 : lw_okq (⟨"FloorQueue", "putIntoBucket", "(I)V"⟩, 14) := ⟨⟨by decide +kernel, by decide +kernel⟩, List.mem_of_getElem? (i := 8) (by decide +kernel), List.mem_of_getElem? (i := 83) (by decide +kernel), List.mem_of_getElem? (i := 84) (by decide +kernel)⟩
theorem lw_p3 : lw_okq (⟨"FloorQueue", "leaveBucket", "(I)V"⟩, 14) := ⟨⟨by decide +kernel, by decide +kernel⟩, List.mem_of_getElem? (i := 8) (by decide +kernel), List.mem_of_getElem? (i := 87) (by decide +kernel), List.mem_of_getElem? (i := 88) (by decide +kernel)⟩
theorem lw_p4 : lw_okq (⟨"FloorQueue", "bucketFor", "(I)I"⟩, 14) := ⟨⟨by decide +kernel, by decide +kernel⟩, List.mem_of_getElem? (i := 8) (by decide +kernel), List.mem_of_getElem? (i := 91) (by decide +kernel), List.mem_of_getElem? (i := 92) (by decide +kernel)⟩
theorem lw_p5 : lw_okq (⟨"FloorQueue", "lowestBucket", "()I"⟩, 14) := ⟨⟨by decide +kernel, by decide +kernel⟩, List.mem_of_getElem? (i := 8) (by decide +kernel), List.mem_of_getElem? (i := 107) (by decide +kernel), List.mem_of_getElem? (i := 108) (by decide +kernel)⟩
theorem lw_p6 : lw_okq (⟨"FloorQueue", "leastItemIn", "(I)I"⟩, 14) := ⟨⟨by decide +kernel, by decide +kernel⟩, List.mem_of_getElem? (i := 8) (by decide +kernel), List.mem_of_getElem? (i := 111) (by decide +kernel), List.mem_of_getElem? (i := 112) (by decide +kernel)⟩
theorem lw_p7 : lw_okq (⟨"FloorQueue", "spread", "(I)V"⟩, 14) := ⟨⟨by decide +kernel, by decide +kernel⟩, List.mem_of_getElem? (i := 8) (by decide +kernel), List.mem_of_getElem? (i := 115) (by decide +kernel), List.mem_of_getElem? (i := 116) (by decide +kernel)⟩
theorem lw_p8 : lw_okq (⟨"FloorQueue", "takeOut", "(I)V"⟩, 14) := ⟨⟨by decide +kernel, by decide +kernel⟩, List.mem_of_getElem? (i := 8) (by decide +kernel), List.mem_of_getElem? (i := 119) (by decide +kernel), List.mem_of_getElem? (i := 120) (by decide +kernel)⟩
theorem lw_p9 : lw_okq (⟨"FloorQueue", "forgetWays", "()V"⟩, 14) := ⟨⟨by decide +kernel, by decide +kernel⟩, List.mem_of_getElem? (i := 8) (by decide +kernel), List.mem_of_getElem? (i := 169) (by decide +kernel), List.mem_of_getElem? (i := 170) (by decide +kernel)⟩
theorem lw_p10 : lw_okq (⟨"FloorQueue", "emptyQueue", "()V"⟩, 14) := ⟨⟨by decide +kernel, by decide +kernel⟩, List.mem_of_getElem? (i := 8) (by decide +kernel), List.mem_of_getElem? (i := 177) (by decide +kernel), List.mem_of_getElem? (i := 178) (by decide +kernel)⟩
theorem lw_p11 : lw_okq (⟨"FloorQueue", "takeNext", "()V"⟩, 14) := ⟨⟨by decide +kernel, by decide +kernel⟩, List.mem_of_getElem? (i := 8) (by decide +kernel), List.mem_of_getElem? (i := 182) (by decide +kernel), List.mem_of_getElem? (i := 183) (by decide +kernel)⟩
theorem lw_p12 : lw_okq (⟨"FloorQueue", "tryWay", "(ILFloorQueue$Arc;)V"⟩, 14) := ⟨⟨by decide +kernel, by decide +kernel⟩, List.mem_of_getElem? (i := 8) (by decide +kernel), List.mem_of_getElem? (i := 187) (by decide +kernel), List.mem_of_getElem? (i := 188) (by decide +kernel)⟩
theorem lw_p13 : lw_okq (⟨"FloorQueue", "isSomeWayTooLong", "()Z"⟩, 14) := ⟨⟨by decide +kernel, by decide +kernel⟩, List.mem_of_getElem? (i := 8) (by decide +kernel), List.mem_of_getElem? (i := 193) (by decide +kernel), List.mem_of_getElem? (i := 194) (by decide +kernel)⟩
theorem lw_p14 : lw_okq (⟨"FloorQueue", "leadsToUntaken", "(I)Z"⟩, 14) := ⟨⟨by decide +kernel, by decide +kernel⟩, List.mem_of_getElem? (i := 8) (by decide +kernel), List.mem_of_getElem? (i := 197) (by decide +kernel), List.mem_of_getElem? (i := 198) (by decide +kernel)⟩
theorem lw_p15 : lw_okq (⟨"FloorQueue", "isWhereItBelongs", "(I)Z"⟩, 14) := ⟨⟨by decide +kernel, by decide +kernel⟩, List.mem_of_getElem? (i := 8) (by decide +kernel), List.mem_of_getElem? (i := 213) (by decide +kernel), List.mem_of_getElem? (i := 214) (by decide +kernel)⟩
def lw_privs_1 : List (MethodName × Nat) := [(⟨"FloorQueue", "isItem", "(I)Z"⟩, 14), (⟨"FloorQueue", "isThere", "(I)Z"⟩, 14), (⟨"FloorQueue", "putIntoBucket", "(I)V"⟩, 14), (⟨"FloorQueue", "leaveBucket", "(I)V"⟩, 14), (⟨"FloorQueue", "bucketFor", "(I)I"⟩, 14), (⟨"FloorQueue", "lowestBucket", "()I"⟩, 14), (⟨"FloorQueue", "leastItemIn", "(I)I"⟩, 14), (⟨"FloorQueue", "spread", "(I)V"⟩, 14), (⟨"FloorQueue", "takeOut", "(I)V"⟩, 14), (⟨"FloorQueue", "forgetWays", "()V"⟩, 14), (⟨"FloorQueue", "emptyQueue", "()V"⟩, 14), (⟨"FloorQueue", "takeNext", "()V"⟩, 14), (⟨"FloorQueue", "tryWay", "(ILFloorQueue$Arc;)V"⟩, 14), (⟨"FloorQueue", "isSomeWayTooLong", "()Z"⟩, 14), (⟨"FloorQueue", "leadsToUntaken", "(I)Z"⟩, 14), (⟨"FloorQueue", "isWhereItBelongs", "(I)Z"⟩, 14)]
theorem lw_r1 : ∀ q ∈ lw_privs_1, lw_okq q := List.forall_mem_cons.mpr ⟨lw_p0, List.forall_mem_cons.mpr ⟨lw_p1, List.forall_mem_cons.mpr ⟨lw_p2, List.forall_mem_cons.mpr ⟨lw_p3, List.forall_mem_cons.mpr ⟨lw_p4, List.forall_mem_cons.mpr ⟨lw_p5, List.forall_mem_cons.mpr ⟨lw_p6, List.forall_mem_cons.mpr ⟨lw_p7, List.forall_mem_cons.mpr ⟨lw_p8, List.forall_mem_cons.mpr ⟨lw_p9, List.forall_mem_cons.mpr ⟨lw_p10, List.forall_mem_cons.mpr ⟨lw_p11, List.forall_mem_cons.mpr ⟨lw_p12, List.forall_mem_cons.mpr ⟨lw_p13, List.forall_mem_cons.mpr ⟨lw_p14, List.forall_mem_cons.mpr ⟨lw_p15, fun _ h => absurd h List.not_mem_nil⟩⟩⟩⟩⟩⟩⟩⟩⟩⟩⟩⟩⟩⟩⟩⟩
theorem lw_p16 : lw_okq (⟨"FloorQueueModel", "clear", "()V"⟩, 16) := ⟨⟨by decide +kernel, by decide +kernel⟩, List.mem_of_getElem? (i := 225) (by decide +kernel), List.mem_of_getElem? (i := 231) (by decide +kernel), List.mem_of_getElem? (i := 232) (by decide +kernel)⟩
theorem lw_p17 : lw_okq (⟨"FloorQueueModel", "isItem", "(I)Z"⟩, 16) := ⟨⟨by decide +kernel, by decide +kernel⟩, List.mem_of_getElem? (i := 225) (by decide +kernel), List.mem_of_getElem? (i := 289) (by decide +kernel), List.mem_of_getElem? (i := 290) (by decide +kernel)⟩
theorem lw_p18 : lw_okq (⟨"FloorQueueModel", "isThere", "(I)Z"⟩, 16) := ⟨⟨by decide +kernel, by decide +kernel⟩, List.mem_of_getElem? (i := 225) (by decide +kernel), List.mem_of_getElem? (i := 297) (by decide +kernel), List.mem_of_getElem? (i := 298) (by decide +kernel)⟩
theorem lw_p19 : lw_okq (⟨"FloorQueueModel", "reach", "(III)V"⟩, 16) := ⟨⟨by decide +kernel, by decide +kernel⟩, List.mem_of_getElem? (i := 225) (by decide +kernel), List.mem_of_getElem? (i := 344) (by decide +kernel), List.mem_of_getElem? (i := 345) (by decide +kernel)⟩
theorem lw_p20 : lw_okq (⟨"FloorQueueModel", "spread", "(I)V"⟩, 16) := ⟨⟨by decide +kernel, by decide +kernel⟩, List.mem_of_getElem? (i := 225) (by decide +kernel), List.mem_of_getElem? (i := 350) (by decide +kernel), List.mem_of_getElem? (i := 351) (by decide +kernel)⟩
def lw_privs_2 : List (MethodName × Nat) := [(⟨"FloorQueueModel", "clear", "()V"⟩, 16), (⟨"FloorQueueModel", "isItem", "(I)Z"⟩, 16), (⟨"FloorQueueModel", "isThere", "(I)Z"⟩, 16), (⟨"FloorQueueModel", "reach", "(III)V"⟩, 16), (⟨"FloorQueueModel", "spread", "(I)V"⟩, 16)]
theorem lw_r2 : ∀ q ∈ lw_privs_2, lw_okq q := List.forall_mem_cons.mpr ⟨lw_p16, List.forall_mem_cons.mpr ⟨lw_p17, List.forall_mem_cons.mpr ⟨lw_p18, List.forall_mem_cons.mpr ⟨lw_p19, List.forall_mem_cons.mpr ⟨lw_p20, fun _ h => absurd h List.not_mem_nil⟩⟩⟩⟩⟩
def lw_privs : List (MethodName × Nat) := lw_privs_1 ++ (lw_privs_2)
def lw_tbl : List Cond := k2_sels lw_privs ++ tables_1
theorem lw_privs_ok : ∀ q ∈ lw_privs, lw_okq q := by
  show ∀ q ∈ lw_privs_1 ++ (lw_privs_2), lw_okq q
  exact List.forall_mem_append.mpr ⟨lw_r1, lw_r2⟩
end
section
def RX0 : String := "FloorQueue$Arc"
def TX0 : u_T := fun k => match k with
  | 0 => ("FloorQueue$Arc", "end", "I", true)
  | 1 => ("FloorQueue$Arc", "length", "I", true)
  | _ => ("FloorQueue$Arc", "earlier", "LFloorQueue$Arc;", true)
def tyX0 : Nat → FieldType := fun k => match k with
  | 0 => .int
  | 1 => .int
  | _ => .object "FloorQueue$Arc"
abbrev wsX00 : List Cond := u_ws RX0 TX0 3
theorem nmX0 : ∀ a, a < 3 → ∀ b, b < 3 → a ≠ b → (TX0 a).2.1 ≠ (TX0 b).2.1 := by decide +kernel
theorem tyX0_ok : ∀ k, k < 3 → parseFieldDescriptor (TX0 k).2.2.1 = some (tyX0 k) := by decide +kernel
abbrev cX0_init : ByteArray := prog_2_method_1_code
def yX0_init : MethodName := ⟨RX0, "<init>", "(IILFloorQueue$Arc;)V"⟩
def RX1 : String := "FloorQueue"
def TX1 : u_T := fun k => match k with
  | 0 => ("FloorQueue", "items", "I", true)
  | 1 => ("FloorQueue", "arcRoom", "I", true)
  | 2 => ("FloorQueue", "greatestLength", "I", true)
  | 3 => ("FloorQueue", "keys", "[I", true)
  | 4 => ("FloorQueue", "buckets", "[I", true)
  | 5 => ("FloorQueue", "members", "[I", true)
  | 6 => ("FloorQueue", "floorKey", "I", false)
  | 7 => ("FloorQueue", "present", "I", false)
  | 8 => ("FloorQueue", "placings", "I", false)
  | 9 => ("FloorQueue", "keyings", "I", false)
  | 10 => ("FloorQueue", "latestArcs", "[LFloorQueue$Arc;", true)
  | 11 => ("FloorQueue", "arcs", "I", false)
  | 12 => ("FloorQueue", "distances", "[I", true)
  | _ => ("FloorQueue", "befores", "[I", true)
def tyX1 : Nat → FieldType := fun k => match k with
  | 0 => .int
  | 1 => .int
  | 2 => .int
  | 3 => .array .int
  | 4 => .array .int
  | 5 => .array .int
  | 6 => .int
  | 7 => .int
  | 8 => .int
  | 9 => .int
  | 10 => .array (.object "FloorQueue$Arc")
  | 11 => .int
  | 12 => .array .int
  | _ => .array .int
abbrev wsX10 : List Cond := u_ws RX1 TX1 14
theorem nmX1 : ∀ a, a < 14 → ∀ b, b < 14 → a ≠ b → (TX1 a).2.1 ≠ (TX1 b).2.1 := by decide +kernel
theorem tyX1_ok : ∀ k, k < 14 → parseFieldDescriptor (TX1 k).2.2.1 = some (tyX1 k) := by decide +kernel
abbrev cX1_init : ByteArray := prog_1_method_1_code
def yX1_init : MethodName := ⟨RX1, "<init>", "(III)V"⟩
abbrev cX1_push : ByteArray := prog_1_method_2_code
def yX1_push : MethodName := ⟨RX1, "push", "(II)I"⟩
abbrev cX1_lower : ByteArray := prog_1_method_3_code
def yX1_lower : MethodName := ⟨RX1, "lower", "(II)I"⟩
abbrev cX1_pop : ByteArray := prog_1_method_4_code
def yX1_pop : MethodName := ⟨RX1, "pop", "()I"⟩
abbrev cX1_floor : ByteArray := prog_1_method_5_code
def yX1_floor : MethodName := ⟨RX1, "floor", "()I"⟩
abbrev cX1_size : ByteArray := prog_1_method_6_code
def yX1_size : MethodName := ⟨RX1, "size", "()I"⟩
abbrev cX1_key : ByteArray := prog_1_method_7_code
def yX1_key : MethodName := ⟨RX1, "key", "(I)I"⟩
abbrev cX1_bucket : ByteArray := prog_1_method_8_code
def yX1_bucket : MethodName := ⟨RX1, "bucket", "(I)I"⟩
abbrev cX1_many : ByteArray := prog_1_method_9_code
def yX1_many : MethodName := ⟨RX1, "many", "(I)I"⟩
abbrev cX1_placed : ByteArray := prog_1_method_10_code
def yX1_placed : MethodName := ⟨RX1, "placed", "()I"⟩
abbrev cX1_arc : ByteArray := prog_1_method_11_code
def yX1_arc : MethodName := ⟨RX1, "arc", "(III)I"⟩
abbrev cX1_run : ByteArray := prog_1_method_12_code
def yX1_run : MethodName := ⟨RX1, "run", "(I)I"⟩
abbrev cX1_distance : ByteArray := prog_1_method_13_code
def yX1_distance : MethodName := ⟨RX1, "distance", "(I)I"⟩
abbrev cX1_before : ByteArray := prog_1_method_14_code
def yX1_before : MethodName := ⟨RX1, "before", "(I)I"⟩
abbrev cX1_sound : ByteArray := prog_1_method_15_code
def yX1_sound : MethodName := ⟨RX1, "sound", "()Z"⟩
abbrev cX1_count : ByteArray := prog_1_method_16_code
def yX1_count : MethodName := ⟨RX1, "count", "(I)I"⟩
abbrev cX1_isItem : ByteArray := prog_1_method_17_code
def yX1_isItem : MethodName := ⟨RX1, "isItem", "(I)Z"⟩
abbrev cX1_isThere : ByteArray := prog_1_method_18_code
def yX1_isThere : MethodName := ⟨RX1, "isThere", "(I)Z"⟩
abbrev cX1_isWhereItBelongs : ByteArray := prog_1_method_19_code
def yX1_isWhereItBelongs : MethodName := ⟨RX1, "isWhereItBelongs", "(I)Z"⟩
abbrev cX1_bucketFor : ByteArray := prog_1_method_20_code
def yX1_bucketFor : MethodName := ⟨RX1, "bucketFor", "(I)I"⟩
abbrev cX1_putIntoBucket : ByteArray := prog_1_method_21_code
def yX1_putIntoBucket : MethodName := ⟨RX1, "putIntoBucket", "(I)V"⟩
abbrev cX1_leaveBucket : ByteArray := prog_1_method_22_code
def yX1_leaveBucket : MethodName := ⟨RX1, "leaveBucket", "(I)V"⟩
abbrev cX1_takeOut : ByteArray := prog_1_method_23_code
def yX1_takeOut : MethodName := ⟨RX1, "takeOut", "(I)V"⟩
abbrev cX1_lowestBucket : ByteArray := prog_1_method_24_code
def yX1_lowestBucket : MethodName := ⟨RX1, "lowestBucket", "()I"⟩
abbrev cX1_leastItemIn : ByteArray := prog_1_method_25_code
def yX1_leastItemIn : MethodName := ⟨RX1, "leastItemIn", "(I)I"⟩
abbrev cX1_spread : ByteArray := prog_1_method_26_code
def yX1_spread : MethodName := ⟨RX1, "spread", "(I)V"⟩
abbrev cX1_emptyQueue : ByteArray := prog_1_method_27_code
def yX1_emptyQueue : MethodName := ⟨RX1, "emptyQueue", "()V"⟩
abbrev cX1_forgetWays : ByteArray := prog_1_method_28_code
def yX1_forgetWays : MethodName := ⟨RX1, "forgetWays", "()V"⟩
abbrev cX1_takeNext : ByteArray := prog_1_method_29_code
def yX1_takeNext : MethodName := ⟨RX1, "takeNext", "()V"⟩
abbrev cX1_tryWay : ByteArray := prog_1_method_30_code
def yX1_tryWay : MethodName := ⟨RX1, "tryWay", "(ILFloorQueue$Arc;)V"⟩
abbrev cX1_isSomeWayTooLong : ByteArray := prog_1_method_31_code
def yX1_isSomeWayTooLong : MethodName := ⟨RX1, "isSomeWayTooLong", "()Z"⟩
abbrev cX1_leadsToUntaken : ByteArray := prog_1_method_32_code
def yX1_leadsToUntaken : MethodName := ⟨RX1, "leadsToUntaken", "(I)Z"⟩
def RX2 : String := "FloorQueueModel"
def TX2 : u_T := fun k => match k with
  | 0 => ("FloorQueueModel", "items", "I", true)
  | 1 => ("FloorQueueModel", "mostArcs", "I", true)
  | 2 => ("FloorQueueModel", "mostLength", "I", true)
  | 3 => ("FloorQueueModel", "keys", "[I", true)
  | 4 => ("FloorQueueModel", "lowest", "I", false)
  | 5 => ("FloorQueueModel", "placings", "I", false)
  | 6 => ("FloorQueueModel", "calls", "I", false)
  | 7 => ("FloorQueueModel", "arcs", "I", false)
  | 8 => ("FloorQueueModel", "froms", "[I", true)
  | 9 => ("FloorQueueModel", "tos", "[I", true)
  | 10 => ("FloorQueueModel", "lengths", "[I", true)
  | 11 => ("FloorQueueModel", "hasWays", "Z", false)
  | 12 => ("FloorQueueModel", "ways", "[I", true)
  | 13 => ("FloorQueueModel", "formers", "[I", true)
  | 14 => ("FloorQueueModel", "taken", "[Z", true)
  | _ => ("FloorQueueModel", "near", "[Z", true)
def tyX2 : Nat → FieldType := fun k => match k with
  | 0 => .int
  | 1 => .int
  | 2 => .int
  | 3 => .array .int
  | 4 => .int
  | 5 => .int
  | 6 => .int
  | 7 => .int
  | 8 => .array .int
  | 9 => .array .int
  | 10 => .array .int
  | 11 => .boolean
  | 12 => .array .int
  | 13 => .array .int
  | 14 => .array .boolean
  | _ => .array .boolean
abbrev wsX20 : List Cond := u_ws RX2 TX2 16
theorem nmX2 : ∀ a, a < 16 → ∀ b, b < 16 → a ≠ b → (TX2 a).2.1 ≠ (TX2 b).2.1 := by decide +kernel
theorem tyX2_ok : ∀ k, k < 16 → parseFieldDescriptor (TX2 k).2.2.1 = some (tyX2 k) := by decide +kernel
abbrev cX2_init : ByteArray := prog_4_method_1_code
def yX2_init : MethodName := ⟨RX2, "<init>", "(III)V"⟩
abbrev cX2_clear : ByteArray := prog_4_method_3_code
def yX2_clear : MethodName := ⟨RX2, "clear", "()V"⟩
abbrev cX2_isItem : ByteArray := prog_4_method_4_code
def yX2_isItem : MethodName := ⟨RX2, "isItem", "(I)Z"⟩
abbrev cX2_isThere : ByteArray := prog_4_method_5_code
def yX2_isThere : MethodName := ⟨RX2, "isThere", "(I)Z"⟩
abbrev cX2_unlike : ByteArray := prog_4_method_6_code
def yX2_unlike : MethodName := ⟨RX2, "unlike", "(II)I"⟩
abbrev cX2_push : ByteArray := prog_4_method_7_code
def yX2_push : MethodName := ⟨RX2, "push", "(II)I"⟩
abbrev cX2_lower : ByteArray := prog_4_method_8_code
def yX2_lower : MethodName := ⟨RX2, "lower", "(II)I"⟩
abbrev cX2_pop : ByteArray := prog_4_method_9_code
def yX2_pop : MethodName := ⟨RX2, "pop", "()I"⟩
abbrev cX2_floor : ByteArray := prog_4_method_10_code
def yX2_floor : MethodName := ⟨RX2, "floor", "()I"⟩
abbrev cX2_size : ByteArray := prog_4_method_11_code
def yX2_size : MethodName := ⟨RX2, "size", "()I"⟩
abbrev cX2_key : ByteArray := prog_4_method_12_code
def yX2_key : MethodName := ⟨RX2, "key", "(I)I"⟩
abbrev cX2_bucket : ByteArray := prog_4_method_13_code
def yX2_bucket : MethodName := ⟨RX2, "bucket", "(I)I"⟩
abbrev cX2_many : ByteArray := prog_4_method_14_code
def yX2_many : MethodName := ⟨RX2, "many", "(I)I"⟩
abbrev cX2_placed : ByteArray := prog_4_method_15_code
def yX2_placed : MethodName := ⟨RX2, "placed", "()I"⟩
abbrev cX2_arc : ByteArray := prog_4_method_16_code
def yX2_arc : MethodName := ⟨RX2, "arc", "(III)I"⟩
abbrev cX2_reach : ByteArray := prog_4_method_17_code
def yX2_reach : MethodName := ⟨RX2, "reach", "(III)V"⟩
abbrev cX2_spread : ByteArray := prog_4_method_18_code
def yX2_spread : MethodName := ⟨RX2, "spread", "(I)V"⟩
abbrev cX2_run : ByteArray := prog_4_method_19_code
def yX2_run : MethodName := ⟨RX2, "run", "(I)I"⟩
abbrev cX2_distance : ByteArray := prog_4_method_20_code
def yX2_distance : MethodName := ⟨RX2, "distance", "(I)I"⟩
abbrev cX2_before : ByteArray := prog_4_method_21_code
def yX2_before : MethodName := ⟨RX2, "before", "(I)I"⟩
abbrev cX2_sound : ByteArray := prog_4_method_22_code
def yX2_sound : MethodName := ⟨RX2, "sound", "()Z"⟩
abbrev cX2_count : ByteArray := prog_4_method_23_code
def yX2_count : MethodName := ⟨RX2, "count", "(I)I"⟩
def RJ6 : String := "java/lang/Integer"
def TJ6 : u_T := fun k => match k with
  | _ => ("", "", "", false)
def tyJ6 : Nat → FieldType := fun k => match k with
  | _ => .int
abbrev wsJ60 : List Cond := u_ws RJ6 TJ6 0
abbrev cJ6_numberOfLeadingZeros_0f7a4 : ByteArray := prog_5_method_47_code
def yJ6_numberOfLeadingZeros_0f7a4 : MethodName := ⟨RJ6, "numberOfLeadingZeros", "(I)I"⟩
def RJ9 : String := "java/lang/Math"
def TJ9 : u_T := fun k => match k with
  | _ => ("", "", "", false)
def tyJ9 : Nat → FieldType := fun k => match k with
  | _ => .int
abbrev wsJ90 : List Cond := u_ws RJ9 TJ9 0
abbrev cJ9_max_7cf53 : ByteArray := prog_6_method_65_code
def yJ9_max_7cf53 : MethodName := ⟨RJ9, "max", "(II)I"⟩
abbrev cJ9_min_7cf53 : ByteArray := prog_6_method_69_code
def yJ9_min_7cf53 : MethodName := ⟨RJ9, "min", "(II)I"⟩
def RJ7 : String := "java/util/Arrays"
def TJ7 : u_T := fun k => match k with
  | _ => ("", "", "", false)
def tyJ7 : Nat → FieldType := fun k => match k with
  | _ => .int
abbrev wsJ70 : List Cond := u_ws RJ7 TJ7 0
abbrev cJ7_fill_53178 : ByteArray := prog_7_method_103_code
def yJ7_fill_53178 : MethodName := ⟨RJ7, "fill", "([II)V"⟩
def RL : String := "FloorQueueLaw"
abbrev cL_cell : ByteArray := method_2_code
def yL_cell : MethodName := ⟨RL, "cell", "([II)I"⟩
abbrev cL_law : ByteArray := code
def yL_law : MethodName := ⟨RL, "law", "([I)Z"⟩
def wsL_law_r1 : List Cond := [Cond.classLink RL 7 RX1, Cond.instantiable RX1 14, Cond.initialized RX1, Cond.classLink RL 18 RX2, Cond.instantiable RX2 16, Cond.initialized RX2, Cond.methodLink RL 9 yL_cell, Cond.static yL_cell, Cond.initialized RL, Cond.code yL_cell cL_cell 2 (some .int), Cond.methodLink RL 15 yX1_init, Cond.instanceMethod yX1_init, Cond.code yX1_init cX1_init 4 none, Cond.methodLink RX1 1 objectInit, Cond.instanceMethod objectInit, Cond.code objectInit ⟨#[0xb1]⟩ 1 none, Cond.methodLink RX1 9 Lib.Math.min.name, Cond.static Lib.Math.min.name, Cond.initialized "java/lang/Math", Cond.code Lib.Math.min.name Lib.Math.min.code 2 (some .int), Cond.methodLink RX1 15 Lib.Math.max.name, Cond.static Lib.Math.max.name, Cond.code Lib.Math.max.name Lib.Math.max.code 2 (some .int), Cond.fieldLink RX1 18 "FloorQueue" "items" "I"]
def wsL_law_r2 : List Cond := [Cond.fieldLink RX1 22 "FloorQueue" "arcRoom" "I", Cond.fieldLink RX1 25 "FloorQueue" "greatestLength" "I", Cond.arrayClass .int, Cond.fieldLink RX1 28 "FloorQueue" "keys" "[I", Cond.fieldLink RX1 32 "FloorQueue" "buckets" "[I", Cond.fieldLink RX1 35 "FloorQueue" "members" "[I", Cond.classLink RX1 38 RX0, Cond.fieldLink RX1 40 "FloorQueue" "latestArcs" "[LFloorQueue$Arc;", Cond.fieldLink RX1 44 "FloorQueue" "distances" "[I", Cond.fieldLink RX1 47 "FloorQueue" "befores" "[I", Cond.methodLink RX1 50 yJ7_fill_53178, Cond.static yJ7_fill_53178, Cond.initialized RJ7, Cond.code yJ7_fill_53178 cJ7_fill_53178 4 none, Cond.methodLink RL 20 yX2_init, Cond.instanceMethod yX2_init, Cond.code yX2_init cX2_init 4 none, Cond.methodLink RX2 1 objectInit, Cond.fieldLink RX2 7 "FloorQueueModel" "keys" "[I", Cond.fieldLink RX2 13 "FloorQueueModel" "froms" "[I", Cond.fieldLink RX2 16 "FloorQueueModel" "tos" "[I", Cond.fieldLink RX2 19 "FloorQueueModel" "lengths" "[I", Cond.fieldLink RX2 22 "FloorQueueModel" "ways" "[I", Cond.fieldLink RX2 25 "FloorQueueModel" "formers" "[I"]
def wsL_law_r3 : List Cond := [Cond.arrayClass .boolean, Cond.fieldLink RX2 28 "FloorQueueModel" "taken" "[Z", Cond.fieldLink RX2 32 "FloorQueueModel" "near" "[Z", Cond.fieldLink RX2 35 "FloorQueueModel" "items" "I", Cond.fieldLink RX2 39 "FloorQueueModel" "mostArcs" "I", Cond.fieldLink RX2 42 "FloorQueueModel" "mostLength" "I", Cond.methodLink RX2 45 yX2_clear, Cond.instanceMethod yX2_clear, Cond.selects RX2 yX2_clear yX2_clear, Cond.code yX2_clear cX2_clear 2 none, Cond.fieldLink RX2 48 "FloorQueueModel" "lowest" "I", Cond.methodLink RL 21 yX1_push, Cond.instanceMethod yX1_push, Cond.selects RX1 yX1_push yX1_push, Cond.code yX1_push cX1_push 3 (some .int), Cond.fieldLink RX1 63 "FloorQueue" "floorKey" "I", Cond.fieldLink RX1 66 "FloorQueue" "present" "I", Cond.fieldLink RX1 69 "FloorQueue" "keyings" "I", Cond.methodLink RX1 56 yX1_isItem, Cond.instanceMethod yX1_isItem, Cond.selects RX1 yX1_isItem yX1_isItem, Cond.code yX1_isItem cX1_isItem 2 (some .boolean), Cond.methodLink RX1 60 yX1_isThere, Cond.instanceMethod yX1_isThere]
def wsL_law_r4 : List Cond := [Cond.selects RX1 yX1_isThere yX1_isThere, Cond.code yX1_isThere cX1_isThere 2 (some .boolean), Cond.methodLink RX1 72 yX1_putIntoBucket, Cond.instanceMethod yX1_putIntoBucket, Cond.selects RX1 yX1_putIntoBucket yX1_putIntoBucket, Cond.code yX1_putIntoBucket cX1_putIntoBucket 3 none, Cond.fieldLink RX1 93 "FloorQueue" "placings" "I", Cond.methodLink RX1 128 yX1_leaveBucket, Cond.instanceMethod yX1_leaveBucket, Cond.selects RX1 yX1_leaveBucket yX1_leaveBucket, Cond.code yX1_leaveBucket cX1_leaveBucket 3 none, Cond.methodLink RX1 76 yX1_bucketFor, Cond.instanceMethod yX1_bucketFor, Cond.selects RX1 yX1_bucketFor yX1_bucketFor, Cond.code yX1_bucketFor cX1_bucketFor 2 (some .int), Cond.methodLink RX1 123 yJ6_numberOfLeadingZeros_0f7a4, Cond.static yJ6_numberOfLeadingZeros_0f7a4, Cond.initialized RJ6, Cond.code yJ6_numberOfLeadingZeros_0f7a4 cJ6_numberOfLeadingZeros_0f7a4 2 (some .int), Cond.constant RJ6 264 (65536), Cond.methodLink RL 25 yX2_push, Cond.instanceMethod yX2_push, Cond.selects RX2 yX2_push yX2_push, Cond.code yX2_push cX2_push 3 (some .int)]
def wsL_law_r5 : List Cond := [Cond.fieldLink RX2 55 "FloorQueueModel" "placings" "I", Cond.fieldLink RX2 58 "FloorQueueModel" "calls" "I", Cond.methodLink RX2 51 yX2_isItem, Cond.instanceMethod yX2_isItem, Cond.selects RX2 yX2_isItem yX2_isItem, Cond.code yX2_isItem cX2_isItem 2 (some .boolean), Cond.methodLink RL 26 yX1_lower, Cond.instanceMethod yX1_lower, Cond.selects RX1 yX1_lower yX1_lower, Cond.code yX1_lower cX1_lower 3 (some .int), Cond.methodLink RL 29 yX2_lower, Cond.instanceMethod yX2_lower, Cond.selects RX2 yX2_lower yX2_lower, Cond.code yX2_lower cX2_lower 3 (some .int), Cond.methodLink RX2 61 yX2_isThere, Cond.instanceMethod yX2_isThere, Cond.selects RX2 yX2_isThere yX2_isThere, Cond.code yX2_isThere cX2_isThere 2 (some .boolean), Cond.methodLink RX2 64 yX2_unlike, Cond.static yX2_unlike, Cond.code yX2_unlike cX2_unlike 4 (some .int), Cond.methodLink RL 30 yX1_pop, Cond.instanceMethod yX1_pop, Cond.selects RX1 yX1_pop yX1_pop]
def wsL_law_r6 : List Cond := [Cond.code yX1_pop cX1_pop 3 (some .int), Cond.methodLink RX1 80 yX1_lowestBucket, Cond.instanceMethod yX1_lowestBucket, Cond.selects RX1 yX1_lowestBucket yX1_lowestBucket, Cond.code yX1_lowestBucket cX1_lowestBucket 2 (some .int), Cond.methodLink RX1 84 yX1_leastItemIn, Cond.instanceMethod yX1_leastItemIn, Cond.selects RX1 yX1_leastItemIn yX1_leastItemIn, Cond.code yX1_leastItemIn cX1_leastItemIn 4 (some .int), Cond.methodLink RX1 87 yX1_spread, Cond.instanceMethod yX1_spread, Cond.selects RX1 yX1_spread yX1_spread, Cond.code yX1_spread cX1_spread 3 none, Cond.methodLink RX1 90 yX1_takeOut, Cond.instanceMethod yX1_takeOut, Cond.selects RX1 yX1_takeOut yX1_takeOut, Cond.code yX1_takeOut cX1_takeOut 2 none, Cond.methodLink RL 34 yX2_pop, Cond.instanceMethod yX2_pop, Cond.selects RX2 yX2_pop yX2_pop, Cond.code yX2_pop cX2_pop 4 (some .int), Cond.methodLink RL 35 yX1_floor, Cond.instanceMethod yX1_floor, Cond.selects RX1 yX1_floor yX1_floor]
def wsL_law_r7 : List Cond := [Cond.code yX1_floor cX1_floor 1 (some .int), Cond.methodLink RL 38 yX2_floor, Cond.instanceMethod yX2_floor, Cond.selects RX2 yX2_floor yX2_floor, Cond.code yX2_floor cX2_floor 1 (some .int), Cond.methodLink RL 39 yX1_size, Cond.instanceMethod yX1_size, Cond.selects RX1 yX1_size yX1_size, Cond.code yX1_size cX1_size 1 (some .int), Cond.methodLink RL 42 yX2_size, Cond.instanceMethod yX2_size, Cond.selects RX2 yX2_size yX2_size, Cond.code yX2_size cX2_size 3 (some .int), Cond.methodLink RL 43 yX1_key, Cond.instanceMethod yX1_key, Cond.selects RX1 yX1_key yX1_key, Cond.code yX1_key cX1_key 2 (some .int), Cond.methodLink RL 47 yX2_key, Cond.instanceMethod yX2_key, Cond.selects RX2 yX2_key yX2_key, Cond.code yX2_key cX2_key 2 (some .int), Cond.methodLink RL 48 yX1_bucket, Cond.instanceMethod yX1_bucket, Cond.selects RX1 yX1_bucket yX1_bucket]
def wsL_law_r8 : List Cond := [Cond.code yX1_bucket cX1_bucket 2 (some .int), Cond.methodLink RL 51 yX2_bucket, Cond.instanceMethod yX2_bucket, Cond.selects RX2 yX2_bucket yX2_bucket, Cond.code yX2_bucket cX2_bucket 2 (some .int), Cond.methodLink RL 52 yX1_many, Cond.instanceMethod yX1_many, Cond.selects RX1 yX1_many yX1_many, Cond.code yX1_many cX1_many 2 (some .int), Cond.methodLink RL 55 yX2_many, Cond.instanceMethod yX2_many, Cond.selects RX2 yX2_many yX2_many, Cond.code yX2_many cX2_many 4 (some .int), Cond.methodLink RL 56 yX1_placed, Cond.instanceMethod yX1_placed, Cond.selects RX1 yX1_placed yX1_placed, Cond.code yX1_placed cX1_placed 1 (some .int), Cond.methodLink RL 59 yX2_placed, Cond.instanceMethod yX2_placed, Cond.selects RX2 yX2_placed yX2_placed, Cond.code yX2_placed cX2_placed 1 (some .int), Cond.methodLink RL 60 yX1_arc, Cond.instanceMethod yX1_arc, Cond.selects RX1 yX1_arc yX1_arc]
def wsL_law_r9 : List Cond := [Cond.code yX1_arc cX1_arc 4 (some .int), Cond.fieldLink RX1 96 "FloorQueue" "arcs" "I", Cond.instantiable RX0 3, Cond.initialized RX0, Cond.instanceMethod yX0_init, Cond.code yX0_init cX0_init 4 none, Cond.methodLink RX0 1 objectInit, Cond.fieldLink RX0 7 "FloorQueue$Arc" "end" "I", Cond.fieldLink RX0 13 "FloorQueue$Arc" "length" "I", Cond.fieldLink RX0 16 "FloorQueue$Arc" "earlier" "LFloorQueue$Arc;", Cond.methodLink RX1 102 yX1_forgetWays, Cond.instanceMethod yX1_forgetWays, Cond.selects RX1 yX1_forgetWays yX1_forgetWays, Cond.code yX1_forgetWays cX1_forgetWays 1 none, Cond.methodLink RL 64 yX2_arc, Cond.instanceMethod yX2_arc, Cond.selects RX2 yX2_arc yX2_arc, Cond.code yX2_arc cX2_arc 4 (some .int), Cond.fieldLink RX2 68 "FloorQueueModel" "arcs" "I", Cond.fieldLink RX2 71 "FloorQueueModel" "hasWays" "Z", Cond.methodLink RL 65 yX1_run, Cond.instanceMethod yX1_run, Cond.selects RX1 yX1_run yX1_run, Cond.code yX1_run cX1_run 3 (some .int)]
def wsL_law_r10 : List Cond := [Cond.methodLink RX1 105 yX1_emptyQueue, Cond.instanceMethod yX1_emptyQueue, Cond.selects RX1 yX1_emptyQueue yX1_emptyQueue, Cond.code yX1_emptyQueue cX1_emptyQueue 1 none, Cond.methodLink RX1 108 yX1_push, Cond.methodLink RX1 111 yX1_takeNext, Cond.instanceMethod yX1_takeNext, Cond.selects RX1 yX1_takeNext yX1_takeNext, Cond.code yX1_takeNext cX1_takeNext 3 none, Cond.methodLink RX1 131 yX1_pop, Cond.methodLink RX1 134 yX1_tryWay, Cond.instanceMethod yX1_tryWay, Cond.selects RX1 yX1_tryWay yX1_tryWay, Cond.code yX1_tryWay cX1_tryWay 6 none, Cond.constantLong RX1 148 (2147483647), Cond.methodLink RX1 150 yX1_lower, Cond.methodLink RX1 114 yX1_isSomeWayTooLong, Cond.instanceMethod yX1_isSomeWayTooLong, Cond.selects RX1 yX1_isSomeWayTooLong yX1_isSomeWayTooLong, Cond.code yX1_isSomeWayTooLong cX1_isSomeWayTooLong 2 (some .boolean), Cond.methodLink RX1 153 yX1_leadsToUntaken, Cond.instanceMethod yX1_leadsToUntaken, Cond.selects RX1 yX1_leadsToUntaken yX1_leadsToUntaken, Cond.code yX1_leadsToUntaken cX1_leadsToUntaken 3 (some .boolean)]
def wsL_law_r11 : List Cond := [Cond.methodLink RL 68 yX2_run, Cond.instanceMethod yX2_run, Cond.selects RX2 yX2_run yX2_run, Cond.code yX2_run cX2_run 5 (some .int), Cond.constant RX2 87 (2147483647), Cond.methodLink RX2 77 yX2_push, Cond.methodLink RX2 83 yX2_size, Cond.methodLink RX2 88 yX2_pop, Cond.methodLink RX2 91 yX2_reach, Cond.instanceMethod yX2_reach, Cond.selects RX2 yX2_reach yX2_reach, Cond.code yX2_reach cX2_reach 6 none, Cond.constantLong RX2 75 (2147483647), Cond.methodLink RX2 80 yX2_lower, Cond.methodLink RX2 95 yX2_spread, Cond.instanceMethod yX2_spread, Cond.selects RX2 yX2_spread yX2_spread, Cond.code yX2_spread cX2_spread 4 none, Cond.methodLink RL 69 yX1_distance, Cond.instanceMethod yX1_distance, Cond.selects RX1 yX1_distance yX1_distance, Cond.code yX1_distance cX1_distance 2 (some .int), Cond.methodLink RL 72 yX2_distance, Cond.instanceMethod yX2_distance]
def wsL_law_r12 : List Cond := [Cond.selects RX2 yX2_distance yX2_distance, Cond.code yX2_distance cX2_distance 2 (some .int), Cond.methodLink RL 73 yX1_before, Cond.instanceMethod yX1_before, Cond.selects RX1 yX1_before yX1_before, Cond.code yX1_before cX1_before 2 (some .int), Cond.methodLink RL 76 yX2_before, Cond.instanceMethod yX2_before, Cond.selects RX2 yX2_before yX2_before, Cond.code yX2_before cX2_before 2 (some .int), Cond.methodLink RL 77 yX1_sound, Cond.instanceMethod yX1_sound, Cond.selects RX1 yX1_sound yX1_sound, Cond.code yX1_sound cX1_sound 2 (some .boolean), Cond.constantLong RX1 121 (32), Cond.methodLink RX1 118 yX1_isWhereItBelongs, Cond.instanceMethod yX1_isWhereItBelongs, Cond.selects RX1 yX1_isWhereItBelongs yX1_isWhereItBelongs, Cond.code yX1_isWhereItBelongs cX1_isWhereItBelongs 2 (some .boolean), Cond.methodLink RL 81 yX2_sound, Cond.instanceMethod yX2_sound, Cond.selects RX2 yX2_sound yX2_sound, Cond.code yX2_sound cX2_sound 1 (some .boolean), Cond.methodLink RL 82 yX1_count]
def wsL_law_r13 : List Cond := [Cond.instanceMethod yX1_count, Cond.selects RX1 yX1_count yX1_count, Cond.code yX1_count cX1_count 2 (some .int), Cond.methodLink RL 85 yX2_count, Cond.instanceMethod yX2_count, Cond.selects RX2 yX2_count yX2_count, Cond.code yX2_count cX2_count 2 (some .int)]
def wsL_law : List Cond := (wsL_law_r1 ++ (wsL_law_r2 ++ (wsL_law_r3 ++ (wsL_law_r4 ++ (wsL_law_r5 ++ (wsL_law_r6 ++ (wsL_law_r7 ++ (wsL_law_r8 ++ (wsL_law_r9 ++ (wsL_law_r10 ++ (wsL_law_r11 ++ (wsL_law_r12 ++ wsL_law_r13)))))))))))) ++ wsX10 ++ wsX20 ++ wsX00 ++ ([] : List Cond)
set_option maxRecDepth 20000 in
theorem wsL_law_in : ∀ w ∈ wsL_law, w ∈ lw_tbl := fun w h => (goodIn_p wsL_law [244, 32, 35, 38, 41, 46, 249, 254, 94, 98, 102, 106, 110, 114, 117, 308, 312, 122, 316, 320, 323, 126, 130, 134, 138, 142, 327, 146, 331, 150, 335, 154, 339, 158, 343, 162, 347, 166, 351, 170, 174, 192, 355, 196, 200, 205, 210, 216, 220, 359, 367, 373, 224, 377, 228, 381, 232, 236, 385, 241, 389] (by decide +kernel) (by decide +kernel) w h).1
theorem inlX0 : ∀ w ∈ wsX00, w ∈ wsL_law := fun _ h => List.mem_append_left _ (List.mem_append_right _ h)
theorem inX0 : ∀ w ∈ wsX00, w ∈ lw_tbl := fun w h => wsL_law_in w (inlX0 w h)
theorem inlX1 : ∀ w ∈ wsX10, w ∈ wsL_law := fun _ h => List.mem_append_left _ (List.mem_append_left _ (List.mem_append_left _ (List.mem_append_right _ h)))
theorem inX1 : ∀ w ∈ wsX10, w ∈ lw_tbl := fun w h => wsL_law_in w (inlX1 w h)
theorem inlX2 : ∀ w ∈ wsX20, w ∈ wsL_law := fun _ h => List.mem_append_left _ (List.mem_append_left _ (List.mem_append_right _ h))
theorem inX2 : ∀ w ∈ wsX20, w ∈ lw_tbl := fun w h => wsL_law_in w (inlX2 w h)
theorem kmr_1 {w : Cond} (h : w ∈ wsL_law_r1) : w ∈ wsL_law := (List.mem_append_left _ (List.mem_append_left _ (List.mem_append_left _ (List.mem_append_left _ (List.mem_append_left _ h)))))
theorem km_0 : Cond.classLink RL 7 RX1 ∈ wsL_law := kmr_1 (List.mem_of_getElem? (i := 0) rfl)
theorem km_1 : Cond.instantiable RX1 14 ∈ wsL_law := kmr_1 (List.mem_of_getElem? (i := 1) rfl)
theorem km_2 : Cond.initialized RX1 ∈ wsL_law := kmr_1 (List.mem_of_getElem? (i := 2) rfl)
theorem km_3 : Cond.classLink RL 18 RX2 ∈ wsL_law := kmr_1 (List.mem_of_getElem? (i := 3) rfl)
theorem km_4 : Cond.instantiable RX2 16 ∈ wsL_law := kmr_1 (List.mem_of_getElem? (i := 4) rfl)
theorem km_5 : Cond.initialized RX2 ∈ wsL_law := kmr_1 (List.mem_of_getElem? (i := 5) rfl)
theorem km_6 : Cond.methodLink RL 9 yL_cell ∈ wsL_law := kmr_1 (List.mem_of_getElem? (i := 6) rfl)
theorem km_7 : Cond.static yL_cell ∈ wsL_law := kmr_1 (List.mem_of_getElem? (i := 7) rfl)
theorem km_8 : Cond.initialized RL ∈ wsL_law := kmr_1 (List.mem_of_getElem? (i := 8) rfl)
theorem km_9 : Cond.code yL_cell cL_cell 2 (some .int) ∈ wsL_law := kmr_1 (List.mem_of_getElem? (i := 9) rfl)
theorem km_10 : Cond.methodLink RL 15 yX1_init ∈ wsL_law := kmr_1 (List.mem_of_getElem? (i := 10) rfl)
theorem km_11 : Cond.instanceMethod yX1_init ∈ wsL_law := kmr_1 (List.mem_of_getElem? (i := 11) rfl)
theorem km_12 : Cond.code yX1_init cX1_init 4 none ∈ wsL_law := kmr_1 (List.mem_of_getElem? (i := 12) rfl)
theorem km_13 : Cond.methodLink RX1 1 objectInit ∈ wsL_law := kmr_1 (List.mem_of_getElem? (i := 13) rfl)
theorem km_14 : Cond.instanceMethod objectInit ∈ wsL_law := kmr_1 (List.mem_of_getElem? (i := 14) rfl)
theorem km_15 : Cond.code objectInit ⟨#[0xb1]⟩ 1 none ∈ wsL_law := kmr_1 (List.mem_of_getElem? (i := 15) rfl)
theorem km_16 : Cond.methodLink RX1 9 Lib.Math.min.name ∈ wsL_law := kmr_1 (List.mem_of_getElem? (i := 16) rfl)
theorem km_17 : Cond.static Lib.Math.min.name ∈ wsL_law := kmr_1 (List.mem_of_getElem? (i := 17) rfl)
theorem km_18 : Cond.initialized "java/lang/Math" ∈ wsL_law := kmr_1 (List.mem_of_getElem? (i := 18) rfl)
theorem km_19 : Cond.code Lib.Math.min.name Lib.Math.min.code 2 (some .int) ∈ wsL_law := kmr_1 (List.mem_of_getElem? (i := 19) rfl)
theorem km_20 : Cond.methodLink RX1 15 Lib.Math.max.name ∈ wsL_law := kmr_1 (List.mem_of_getElem? (i := 20) rfl)
theorem km_21 : Cond.static Lib.Math.max.name ∈ wsL_law := kmr_1 (List.mem_of_getElem? (i := 21) rfl)
theorem km_22 : Cond.code Lib.Math.max.name Lib.Math.max.code 2 (some .int) ∈ wsL_law := kmr_1 (List.mem_of_getElem? (i := 22) rfl)
theorem km_23 : Cond.fieldLink RX1 18 "FloorQueue" "items" "I" ∈ wsL_law := kmr_1 (List.mem_of_getElem? (i := 23) rfl)
theorem kmr_2 {w : Cond} (h : w ∈ wsL_law_r2) : w ∈ wsL_law := (List.mem_append_left _ (List.mem_append_left _ (List.mem_append_left _ (List.mem_append_left _ (List.mem_append_right _ (List.mem_append_left _ h))))))
theorem km_24 : Cond.fieldLink RX1 22 "FloorQueue" "arcRoom" "I" ∈ wsL_law := kmr_2 (List.mem_of_getElem? (i := 0) rfl)
theorem km_25 : Cond.fieldLink RX1 25 "FloorQueue" "greatestLength" "I" ∈ wsL_law := kmr_2 (List.mem_of_getElem? (i := 1) rfl)
theorem km_26 : Cond.arrayClass .int ∈ wsL_law := kmr_2 (List.mem_of_getElem? (i := 2) rfl)
theorem km_27 : Cond.fieldLink RX1 28 "FloorQueue" "keys" "[I" ∈ wsL_law := kmr_2 (List.mem_of_getElem? (i := 3) rfl)
theorem km_28 : Cond.fieldLink RX1 32 "FloorQueue" "buckets" "[I" ∈ wsL_law := kmr_2 (List.mem_of_getElem? (i := 4) rfl)
theorem km_29 : Cond.fieldLink RX1 35 "FloorQueue" "members" "[I" ∈ wsL_law := kmr_2 (List.mem_of_getElem? (i := 5) rfl)
theorem km_30 : Cond.classLink RX1 38 RX0 ∈ wsL_law := kmr_2 (List.mem_of_getElem? (i := 6) rfl)
theorem km_31 : Cond.fieldLink RX1 40 "FloorQueue" "latestArcs" "[LFloorQueue$Arc;" ∈ wsL_law := kmr_2 (List.mem_of_getElem? (i := 7) rfl)
theorem km_32 : Cond.fieldLink RX1 44 "FloorQueue" "distances" "[I" ∈ wsL_law := kmr_2 (List.mem_of_getElem? (i := 8) rfl)
theorem km_33 : Cond.fieldLink RX1 47 "FloorQueue" "befores" "[I" ∈ wsL_law := kmr_2 (List.mem_of_getElem? (i := 9) rfl)
theorem km_34 : Cond.methodLink RX1 50 yJ7_fill_53178 ∈ wsL_law := kmr_2 (List.mem_of_getElem? (i := 10) rfl)
theorem km_35 : Cond.static yJ7_fill_53178 ∈ wsL_law := kmr_2 (List.mem_of_getElem? (i := 11) rfl)
theorem km_36 : Cond.initialized RJ7 ∈ wsL_law := kmr_2 (List.mem_of_getElem? (i := 12) rfl)
theorem km_37 : Cond.code yJ7_fill_53178 cJ7_fill_53178 4 none ∈ wsL_law := kmr_2 (List.mem_of_getElem? (i := 13) rfl)
theorem km_38 : Cond.methodLink RL 20 yX2_init ∈ wsL_law := kmr_2 (List.mem_of_getElem? (i := 14) rfl)
theorem km_39 : Cond.instanceMethod yX2_init ∈ wsL_law := kmr_2 (List.mem_of_getElem? (i := 15) rfl)
theorem km_40 : Cond.code yX2_init cX2_init 4 none ∈ wsL_law := kmr_2 (List.mem_of_getElem? (i := 16) rfl)
theorem km_41 : Cond.methodLink RX2 1 objectInit ∈ wsL_law := kmr_2 (List.mem_of_getElem? (i := 17) rfl)
theorem km_42 : Cond.fieldLink RX2 7 "FloorQueueModel" "keys" "[I" ∈ wsL_law := kmr_2 (List.mem_of_getElem? (i := 18) rfl)
theorem km_43 : Cond.fieldLink RX2 13 "FloorQueueModel" "froms" "[I" ∈ wsL_law := kmr_2 (List.mem_of_getElem? (i := 19) rfl)
theorem km_44 : Cond.fieldLink RX2 16 "FloorQueueModel" "tos" "[I" ∈ wsL_law := kmr_2 (List.mem_of_getElem? (i := 20) rfl)
theorem km_45 : Cond.fieldLink RX2 19 "FloorQueueModel" "lengths" "[I" ∈ wsL_law := kmr_2 (List.mem_of_getElem? (i := 21) rfl)
theorem km_46 : Cond.fieldLink RX2 22 "FloorQueueModel" "ways" "[I" ∈ wsL_law := kmr_2 (List.mem_of_getElem? (i := 22) rfl)
theorem km_47 : Cond.fieldLink RX2 25 "FloorQueueModel" "formers" "[I" ∈ wsL_law := kmr_2 (List.mem_of_getElem? (i := 23) rfl)
theorem kmr_3 {w : Cond} (h : w ∈ wsL_law_r3) : w ∈ wsL_law := (List.mem_append_left _ (List.mem_append_left _ (List.mem_append_left _ (List.mem_append_left _ (List.mem_append_right _ (List.mem_append_right _ (List.mem_append_left _ h)))))))
theorem km_48 : Cond.arrayClass .boolean ∈ wsL_law := kmr_3 (List.mem_of_getElem? (i := 0) rfl)
theorem km_49 : Cond.fieldLink RX2 28 "FloorQueueModel" "taken" "[Z" ∈ wsL_law := kmr_3 (List.mem_of_getElem? (i := 1) rfl)
theorem km_50 : Cond.fieldLink RX2 32 "FloorQueueModel" "near" "[Z" ∈ wsL_law := kmr_3 (List.mem_of_getElem? (i := 2) rfl)
theorem km_51 : Cond.fieldLink RX2 35 "FloorQueueModel" "items" "I" ∈ wsL_law := kmr_3 (List.mem_of_getElem? (i := 3) rfl)
theorem km_52 : Cond.fieldLink RX2 39 "FloorQueueModel" "mostArcs" "I" ∈ wsL_law := kmr_3 (List.mem_of_getElem? (i := 4) rfl)
theorem km_53 : Cond.fieldLink RX2 42 "FloorQueueModel" "mostLength" "I" ∈ wsL_law := kmr_3 (List.mem_of_getElem? (i := 5) rfl)
theorem km_54 : Cond.methodLink RX2 45 yX2_clear ∈ wsL_law := kmr_3 (List.mem_of_getElem? (i := 6) rfl)
theorem km_55 : Cond.instanceMethod yX2_clear ∈ wsL_law := kmr_3 (List.mem_of_getElem? (i := 7) rfl)
theorem km_56 : Cond.selects RX2 yX2_clear yX2_clear ∈ wsL_law := kmr_3 (List.mem_of_getElem? (i := 8) rfl)
theorem km_57 : Cond.code yX2_clear cX2_clear 2 none ∈ wsL_law := kmr_3 (List.mem_of_getElem? (i := 9) rfl)
theorem km_58 : Cond.fieldLink RX2 48 "FloorQueueModel" "lowest" "I" ∈ wsL_law := kmr_3 (List.mem_of_getElem? (i := 10) rfl)
theorem km_59 : Cond.methodLink RL 21 yX1_push ∈ wsL_law := kmr_3 (List.mem_of_getElem? (i := 11) rfl)
theorem km_60 : Cond.instanceMethod yX1_push ∈ wsL_law := kmr_3 (List.mem_of_getElem? (i := 12) rfl)
theorem km_61 : Cond.selects RX1 yX1_push yX1_push ∈ wsL_law := kmr_3 (List.mem_of_getElem? (i := 13) rfl)
theorem km_62 : Cond.code yX1_push cX1_push 3 (some .int) ∈ wsL_law := kmr_3 (List.mem_of_getElem? (i := 14) rfl)
theorem km_63 : Cond.fieldLink RX1 63 "FloorQueue" "floorKey" "I" ∈ wsL_law := kmr_3 (List.mem_of_getElem? (i := 15) rfl)
theorem km_64 : Cond.fieldLink RX1 66 "FloorQueue" "present" "I" ∈ wsL_law := kmr_3 (List.mem_of_getElem? (i := 16) rfl)
theorem km_65 : Cond.fieldLink RX1 69 "FloorQueue" "keyings" "I" ∈ wsL_law := kmr_3 (List.mem_of_getElem? (i := 17) rfl)
theorem km_66 : Cond.methodLink RX1 56 yX1_isItem ∈ wsL_law := kmr_3 (List.mem_of_getElem? (i := 18) rfl)
theorem km_67 : Cond.instanceMethod yX1_isItem ∈ wsL_law := kmr_3 (List.mem_of_getElem? (i := 19) rfl)
theorem km_68 : Cond.selects RX1 yX1_isItem yX1_isItem ∈ wsL_law := kmr_3 (List.mem_of_getElem? (i := 20) rfl)
theorem km_69 : Cond.code yX1_isItem cX1_isItem 2 (some .boolean) ∈ wsL_law := kmr_3 (List.mem_of_getElem? (i := 21) rfl)
theorem km_70 : Cond.methodLink RX1 60 yX1_isThere ∈ wsL_law := kmr_3 (List.mem_of_getElem? (i := 22) rfl)
theorem km_71 : Cond.instanceMethod yX1_isThere ∈ wsL_law := kmr_3 (List.mem_of_getElem? (i := 23) rfl)
theorem kmr_4 {w : Cond} (h : w ∈ wsL_law_r4) : w ∈ wsL_law := (List.mem_append_left _ (List.mem_append_left _ (List.mem_append_left _ (List.mem_append_left _ (List.mem_append_right _ (List.mem_append_right _ (List.mem_append_right _ (List.mem_append_left _ h))))))))
theorem km_72 : Cond.selects RX1 yX1_isThere yX1_isThere ∈ wsL_law := kmr_4 (List.mem_of_getElem? (i := 0) rfl)
theorem km_73 : Cond.code yX1_isThere cX1_isThere 2 (some .boolean) ∈ wsL_law := kmr_4 (List.mem_of_getElem? (i := 1) rfl)
theorem km_74 : Cond.methodLink RX1 72 yX1_putIntoBucket ∈ wsL_law := kmr_4 (List.mem_of_getElem? (i := 2) rfl)
theorem km_75 : Cond.instanceMethod yX1_putIntoBucket ∈ wsL_law := kmr_4 (List.mem_of_getElem? (i := 3) rfl)
theorem km_76 : Cond.selects RX1 yX1_putIntoBucket yX1_putIntoBucket ∈ wsL_law := kmr_4 (List.mem_of_getElem? (i := 4) rfl)
theorem km_77 : Cond.code yX1_putIntoBucket cX1_putIntoBucket 3 none ∈ wsL_law := kmr_4 (List.mem_of_getElem? (i := 5) rfl)
theorem km_78 : Cond.fieldLink RX1 93 "FloorQueue" "placings" "I" ∈ wsL_law := kmr_4 (List.mem_of_getElem? (i := 6) rfl)
theorem km_79 : Cond.methodLink RX1 128 yX1_leaveBucket ∈ wsL_law := kmr_4 (List.mem_of_getElem? (i := 7) rfl)
theorem km_80 : Cond.instanceMethod yX1_leaveBucket ∈ wsL_law := kmr_4 (List.mem_of_getElem? (i := 8) rfl)
theorem km_81 : Cond.selects RX1 yX1_leaveBucket yX1_leaveBucket ∈ wsL_law := kmr_4 (List.mem_of_getElem? (i := 9) rfl)
theorem km_82 : Cond.code yX1_leaveBucket cX1_leaveBucket 3 none ∈ wsL_law := kmr_4 (List.mem_of_getElem? (i := 10) rfl)
theorem km_83 : Cond.methodLink RX1 76 yX1_bucketFor ∈ wsL_law := kmr_4 (List.mem_of_getElem? (i := 11) rfl)
theorem km_84 : Cond.instanceMethod yX1_bucketFor ∈ wsL_law := kmr_4 (List.mem_of_getElem? (i := 12) rfl)
theorem km_85 : Cond.selects RX1 yX1_bucketFor yX1_bucketFor ∈ wsL_law := kmr_4 (List.mem_of_getElem? (i := 13) rfl)
theorem km_86 : Cond.code yX1_bucketFor cX1_bucketFor 2 (some .int) ∈ wsL_law := kmr_4 (List.mem_of_getElem? (i := 14) rfl)
theorem km_87 : Cond.methodLink RX1 123 yJ6_numberOfLeadingZeros_0f7a4 ∈ wsL_law := kmr_4 (List.mem_of_getElem? (i := 15) rfl)
theorem km_88 : Cond.static yJ6_numberOfLeadingZeros_0f7a4 ∈ wsL_law := kmr_4 (List.mem_of_getElem? (i := 16) rfl)
theorem km_89 : Cond.initialized RJ6 ∈ wsL_law := kmr_4 (List.mem_of_getElem? (i := 17) rfl)
theorem km_90 : Cond.code yJ6_numberOfLeadingZeros_0f7a4 cJ6_numberOfLeadingZeros_0f7a4 2 (some .int) ∈ wsL_law := kmr_4 (List.mem_of_getElem? (i := 18) rfl)
theorem km_91 : Cond.constant RJ6 264 (65536) ∈ wsL_law := kmr_4 (List.mem_of_getElem? (i := 19) rfl)
theorem km_92 : Cond.methodLink RL 25 yX2_push ∈ wsL_law := kmr_4 (List.mem_of_getElem? (i := 20) rfl)
theorem km_93 : Cond.instanceMethod yX2_push ∈ wsL_law := kmr_4 (List.mem_of_getElem? (i := 21) rfl)
theorem km_94 : Cond.selects RX2 yX2_push yX2_push ∈ wsL_law := kmr_4 (List.mem_of_getElem? (i := 22) rfl)
theorem km_95 : Cond.code yX2_push cX2_push 3 (some .int) ∈ wsL_law := kmr_4 (List.mem_of_getElem? (i := 23) rfl)
theorem kmr_5 {w : Cond} (h : w ∈ wsL_law_r5) : w ∈ wsL_law := (List.mem_append_left _ (List.mem_append_left _ (List.mem_append_left _ (List.mem_append_left _ (List.mem_append_right _ (List.mem_append_right _ (List.mem_append_right _ (List.mem_append_right _ (List.mem_append_left _ h)))))))))
theorem km_96 : Cond.fieldLink RX2 55 "FloorQueueModel" "placings" "I" ∈ wsL_law := kmr_5 (List.mem_of_getElem? (i := 0) rfl)
theorem km_97 : Cond.fieldLink RX2 58 "FloorQueueModel" "calls" "I" ∈ wsL_law := kmr_5 (List.mem_of_getElem? (i := 1) rfl)
theorem km_98 : Cond.methodLink RX2 51 yX2_isItem ∈ wsL_law := kmr_5 (List.mem_of_getElem? (i := 2) rfl)
theorem km_99 : Cond.instanceMethod yX2_isItem ∈ wsL_law := kmr_5 (List.mem_of_getElem? (i := 3) rfl)
theorem km_100 : Cond.selects RX2 yX2_isItem yX2_isItem ∈ wsL_law := kmr_5 (List.mem_of_getElem? (i := 4) rfl)
theorem km_101 : Cond.code yX2_isItem cX2_isItem 2 (some .boolean) ∈ wsL_law := kmr_5 (List.mem_of_getElem? (i := 5) rfl)
theorem km_102 : Cond.methodLink RL 26 yX1_lower ∈ wsL_law := kmr_5 (List.mem_of_getElem? (i := 6) rfl)
theorem km_103 : Cond.instanceMethod yX1_lower ∈ wsL_law := kmr_5 (List.mem_of_getElem? (i := 7) rfl)
theorem km_104 : Cond.selects RX1 yX1_lower yX1_lower ∈ wsL_law := kmr_5 (List.mem_of_getElem? (i := 8) rfl)
theorem km_105 : Cond.code yX1_lower cX1_lower 3 (some .int) ∈ wsL_law := kmr_5 (List.mem_of_getElem? (i := 9) rfl)
theorem km_106 : Cond.methodLink RL 29 yX2_lower ∈ wsL_law := kmr_5 (List.mem_of_getElem? (i := 10) rfl)
theorem km_107 : Cond.instanceMethod yX2_lower ∈ wsL_law := kmr_5 (List.mem_of_getElem? (i := 11) rfl)
theorem km_108 : Cond.selects RX2 yX2_lower yX2_lower ∈ wsL_law := kmr_5 (List.mem_of_getElem? (i := 12) rfl)
theorem km_109 : Cond.code yX2_lower cX2_lower 3 (some .int) ∈ wsL_law := kmr_5 (List.mem_of_getElem? (i := 13) rfl)
theorem km_110 : Cond.methodLink RX2 61 yX2_isThere ∈ wsL_law := kmr_5 (List.mem_of_getElem? (i := 14) rfl)
theorem km_111 : Cond.instanceMethod yX2_isThere ∈ wsL_law := kmr_5 (List.mem_of_getElem? (i := 15) rfl)
theorem km_112 : Cond.selects RX2 yX2_isThere yX2_isThere ∈ wsL_law := kmr_5 (List.mem_of_getElem? (i := 16) rfl)
theorem km_113 : Cond.code yX2_isThere cX2_isThere 2 (some .boolean) ∈ wsL_law := kmr_5 (List.mem_of_getElem? (i := 17) rfl)
theorem km_114 : Cond.methodLink RX2 64 yX2_unlike ∈ wsL_law := kmr_5 (List.mem_of_getElem? (i := 18) rfl)
theorem km_115 : Cond.static yX2_unlike ∈ wsL_law := kmr_5 (List.mem_of_getElem? (i := 19) rfl)
theorem km_116 : Cond.code yX2_unlike cX2_unlike 4 (some .int) ∈ wsL_law := kmr_5 (List.mem_of_getElem? (i := 20) rfl)
theorem km_117 : Cond.methodLink RL 30 yX1_pop ∈ wsL_law := kmr_5 (List.mem_of_getElem? (i := 21) rfl)
theorem km_118 : Cond.instanceMethod yX1_pop ∈ wsL_law := kmr_5 (List.mem_of_getElem? (i := 22) rfl)
theorem km_119 : Cond.selects RX1 yX1_pop yX1_pop ∈ wsL_law := kmr_5 (List.mem_of_getElem? (i := 23) rfl)
theorem kmr_6 {w : Cond} (h : w ∈ wsL_law_r6) : w ∈ wsL_law := (List.mem_append_left _ (List.mem_append_left _ (List.mem_append_left _ (List.mem_append_left _ (List.mem_append_right _ (List.mem_append_right _ (List.mem_append_right _ (List.mem_append_right _ (List.mem_append_right _ (List.mem_append_left _ h))))))))))
theorem km_120 : Cond.code yX1_pop cX1_pop 3 (some .int) ∈ wsL_law := kmr_6 (List.mem_of_getElem? (i := 0) rfl)
theorem km_121 : Cond.methodLink RX1 80 yX1_lowestBucket ∈ wsL_law := kmr_6 (List.mem_of_getElem? (i := 1) rfl)
theorem km_122 : Cond.instanceMethod yX1_lowestBucket ∈ wsL_law := kmr_6 (List.mem_of_getElem? (i := 2) rfl)
theorem km_123 : Cond.selects RX1 yX1_lowestBucket yX1_lowestBucket ∈ wsL_law := kmr_6 (List.mem_of_getElem? (i := 3) rfl)
theorem km_124 : Cond.code yX1_lowestBucket cX1_lowestBucket 2 (some .int) ∈ wsL_law := kmr_6 (List.mem_of_getElem? (i := 4) rfl)
theorem km_125 : Cond.methodLink RX1 84 yX1_leastItemIn ∈ wsL_law := kmr_6 (List.mem_of_getElem? (i := 5) rfl)
theorem km_126 : Cond.instanceMethod yX1_leastItemIn ∈ wsL_law := kmr_6 (List.mem_of_getElem? (i := 6) rfl)
theorem km_127 : Cond.selects RX1 yX1_leastItemIn yX1_leastItemIn ∈ wsL_law := kmr_6 (List.mem_of_getElem? (i := 7) rfl)
theorem km_128 : Cond.code yX1_leastItemIn cX1_leastItemIn 4 (some .int) ∈ wsL_law := kmr_6 (List.mem_of_getElem? (i := 8) rfl)
theorem km_129 : Cond.methodLink RX1 87 yX1_spread ∈ wsL_law := kmr_6 (List.mem_of_getElem? (i := 9) rfl)
theorem km_130 : Cond.instanceMethod yX1_spread ∈ wsL_law := kmr_6 (List.mem_of_getElem? (i := 10) rfl)
theorem km_131 : Cond.selects RX1 yX1_spread yX1_spread ∈ wsL_law := kmr_6 (List.mem_of_getElem? (i := 11) rfl)
theorem km_132 : Cond.code yX1_spread cX1_spread 3 none ∈ wsL_law := kmr_6 (List.mem_of_getElem? (i := 12) rfl)
theorem km_133 : Cond.methodLink RX1 90 yX1_takeOut ∈ wsL_law := kmr_6 (List.mem_of_getElem? (i := 13) rfl)
theorem km_134 : Cond.instanceMethod yX1_takeOut ∈ wsL_law := kmr_6 (List.mem_of_getElem? (i := 14) rfl)
theorem km_135 : Cond.selects RX1 yX1_takeOut yX1_takeOut ∈ wsL_law := kmr_6 (List.mem_of_getElem? (i := 15) rfl)
theorem km_136 : Cond.code yX1_takeOut cX1_takeOut 2 none ∈ wsL_law := kmr_6 (List.mem_of_getElem? (i := 16) rfl)
theorem km_137 : Cond.methodLink RL 34 yX2_pop ∈ wsL_law := kmr_6 (List.mem_of_getElem? (i := 17) rfl)
theorem km_138 : Cond.instanceMethod yX2_pop ∈ wsL_law := kmr_6 (List.mem_of_getElem? (i := 18) rfl)
theorem km_139 : Cond.selects RX2 yX2_pop yX2_pop ∈ wsL_law := kmr_6 (List.mem_of_getElem? (i := 19) rfl)
theorem km_140 : Cond.code yX2_pop cX2_pop 4 (some .int) ∈ wsL_law := kmr_6 (List.mem_of_getElem? (i := 20) rfl)
theorem km_141 : Cond.methodLink RL 35 yX1_floor ∈ wsL_law := kmr_6 (List.mem_of_getElem? (i := 21) rfl)
theorem km_142 : Cond.instanceMethod yX1_floor ∈ wsL_law := kmr_6 (List.mem_of_getElem? (i := 22) rfl)
theorem km_143 : Cond.selects RX1 yX1_floor yX1_floor ∈ wsL_law := kmr_6 (List.mem_of_getElem? (i := 23) rfl)
theorem kmr_7 {w : Cond} (h : w ∈ wsL_law_r7) : w ∈ wsL_law := (List.mem_append_left _ (List.mem_append_left _ (List.mem_append_left _ (List.mem_append_left _ (List.mem_append_right _ (List.mem_append_right _ (List.mem_append_right _ (List.mem_append_right _ (List.mem_append_right _ (List.mem_append_right _ (List.mem_append_left _ h)))))))))))
theorem km_144 : Cond.code yX1_floor cX1_floor 1 (some .int) ∈ wsL_law := kmr_7 (List.mem_of_getElem? (i := 0) rfl)
theorem km_145 : Cond.methodLink RL 38 yX2_floor ∈ wsL_law := kmr_7 (List.mem_of_getElem? (i := 1) rfl)
theorem km_146 : Cond.instanceMethod yX2_floor ∈ wsL_law := kmr_7 (List.mem_of_getElem? (i := 2) rfl)
theorem km_147 : Cond.selects RX2 yX2_floor yX2_floor ∈ wsL_law := kmr_7 (List.mem_of_getElem? (i := 3) rfl)
theorem km_148 : Cond.code yX2_floor cX2_floor 1 (some .int) ∈ wsL_law := kmr_7 (List.mem_of_getElem? (i := 4) rfl)
theorem km_149 : Cond.methodLink RL 39 yX1_size ∈ wsL_law := kmr_7 (List.mem_of_getElem? (i := 5) rfl)
theorem km_150 : Cond.instanceMethod yX1_size ∈ wsL_law := kmr_7 (List.mem_of_getElem? (i := 6) rfl)
theorem km_151 : Cond.selects RX1 yX1_size yX1_size ∈ wsL_law := kmr_7 (List.mem_of_getElem? (i := 7) rfl)
theorem km_152 : Cond.code yX1_size cX1_size 1 (some .int) ∈ wsL_law := kmr_7 (List.mem_of_getElem? (i := 8) rfl)
theorem km_153 : Cond.methodLink RL 42 yX2_size ∈ wsL_law := kmr_7 (List.mem_of_getElem? (i := 9) rfl)
theorem km_154 : Cond.instanceMethod yX2_size ∈ wsL_law := kmr_7 (List.mem_of_getElem? (i := 10) rfl)
theorem km_155 : Cond.selects RX2 yX2_size yX2_size ∈ wsL_law := kmr_7 (List.mem_of_getElem? (i := 11) rfl)
theorem km_156 : Cond.code yX2_size cX2_size 3 (some .int) ∈ wsL_law := kmr_7 (List.mem_of_getElem? (i := 12) rfl)
theorem km_157 : Cond.methodLink RL 43 yX1_key ∈ wsL_law := kmr_7 (List.mem_of_getElem? (i := 13) rfl)
theorem km_158 : Cond.instanceMethod yX1_key ∈ wsL_law := kmr_7 (List.mem_of_getElem? (i := 14) rfl)
theorem km_159 : Cond.selects RX1 yX1_key yX1_key ∈ wsL_law := kmr_7 (List.mem_of_getElem? (i := 15) rfl)
theorem km_160 : Cond.code yX1_key cX1_key 2 (some .int) ∈ wsL_law := kmr_7 (List.mem_of_getElem? (i := 16) rfl)
theorem km_161 : Cond.methodLink RL 47 yX2_key ∈ wsL_law := kmr_7 (List.mem_of_getElem? (i := 17) rfl)
theorem km_162 : Cond.instanceMethod yX2_key ∈ wsL_law := kmr_7 (List.mem_of_getElem? (i := 18) rfl)
theorem km_163 : Cond.selects RX2 yX2_key yX2_key ∈ wsL_law := kmr_7 (List.mem_of_getElem? (i := 19) rfl)
theorem km_164 : Cond.code yX2_key cX2_key 2 (some .int) ∈ wsL_law := kmr_7 (List.mem_of_getElem? (i := 20) rfl)
theorem km_165 : Cond.methodLink RL 48 yX1_bucket ∈ wsL_law := kmr_7 (List.mem_of_getElem? (i := 21) rfl)
theorem km_166 : Cond.instanceMethod yX1_bucket ∈ wsL_law := kmr_7 (List.mem_of_getElem? (i := 22) rfl)
theorem km_167 : Cond.selects RX1 yX1_bucket yX1_bucket ∈ wsL_law := kmr_7 (List.mem_of_getElem? (i := 23) rfl)
theorem kmr_8 {w : Cond} (h : w ∈ wsL_law_r8) : w ∈ wsL_law := (List.mem_append_left _ (List.mem_append_left _ (List.mem_append_left _ (List.mem_append_left _ (List.mem_append_right _ (List.mem_append_right _ (List.mem_append_right _ (List.mem_append_right _ (List.mem_append_right _ (List.mem_append_right _ (List.mem_append_right _ (List.mem_append_left _ h))))))))))))
theorem km_168 : Cond.code yX1_bucket cX1_bucket 2 (some .int) ∈ wsL_law := kmr_8 (List.mem_of_getElem? (i := 0) rfl)
theorem km_169 : Cond.methodLink RL 51 yX2_bucket ∈ wsL_law := kmr_8 (List.mem_of_getElem? (i := 1) rfl)
theorem km_170 : Cond.instanceMethod yX2_bucket ∈ wsL_law := kmr_8 (List.mem_of_getElem? (i := 2) rfl)
theorem km_171 : Cond.selects RX2 yX2_bucket yX2_bucket ∈ wsL_law := kmr_8 (List.mem_of_getElem? (i := 3) rfl)
theorem km_172 : Cond.code yX2_bucket cX2_bucket 2 (some .int) ∈ wsL_law := kmr_8 (List.mem_of_getElem? (i := 4) rfl)
theorem km_173 : Cond.methodLink RL 52 yX1_many ∈ wsL_law := kmr_8 (List.mem_of_getElem? (i := 5) rfl)
theorem km_174 : Cond.instanceMethod yX1_many ∈ wsL_law := kmr_8 (List.mem_of_getElem? (i := 6) rfl)
theorem km_175 : Cond.selects RX1 yX1_many yX1_many ∈ wsL_law := kmr_8 (List.mem_of_getElem? (i := 7) rfl)
theorem km_176 : Cond.code yX1_many cX1_many 2 (some .int) ∈ wsL_law := kmr_8 (List.mem_of_getElem? (i := 8) rfl)
theorem km_177 : Cond.methodLink RL 55 yX2_many ∈ wsL_law := kmr_8 (List.mem_of_getElem? (i := 9) rfl)
theorem km_178 : Cond.instanceMethod yX2_many ∈ wsL_law := kmr_8 (List.mem_of_getElem? (i := 10) rfl)
theorem km_179 : Cond.selects RX2 yX2_many yX2_many ∈ wsL_law := kmr_8 (List.mem_of_getElem? (i := 11) rfl)
theorem km_180 : Cond.code yX2_many cX2_many 4 (some .int) ∈ wsL_law := kmr_8 (List.mem_of_getElem? (i := 12) rfl)
theorem km_181 : Cond.methodLink RL 56 yX1_placed ∈ wsL_law := kmr_8 (List.mem_of_getElem? (i := 13) rfl)
theorem km_182 : Cond.instanceMethod yX1_placed ∈ wsL_law := kmr_8 (List.mem_of_getElem? (i := 14) rfl)
theorem km_183 : Cond.selects RX1 yX1_placed yX1_placed ∈ wsL_law := kmr_8 (List.mem_of_getElem? (i := 15) rfl)
theorem km_184 : Cond.code yX1_placed cX1_placed 1 (some .int) ∈ wsL_law := kmr_8 (List.mem_of_getElem? (i := 16) rfl)
theorem km_185 : Cond.methodLink RL 59 yX2_placed ∈ wsL_law := kmr_8 (List.mem_of_getElem? (i := 17) rfl)
theorem km_186 : Cond.instanceMethod yX2_placed ∈ wsL_law := kmr_8 (List.mem_of_getElem? (i := 18) rfl)
theorem km_187 : Cond.selects RX2 yX2_placed yX2_placed ∈ wsL_law := kmr_8 (List.mem_of_getElem? (i := 19) rfl)
theorem km_188 : Cond.code yX2_placed cX2_placed 1 (some .int) ∈ wsL_law := kmr_8 (List.mem_of_getElem? (i := 20) rfl)
theorem km_189 : Cond.methodLink RL 60 yX1_arc ∈ wsL_law := kmr_8 (List.mem_of_getElem? (i := 21) rfl)
theorem km_190 : Cond.instanceMethod yX1_arc ∈ wsL_law := kmr_8 (List.mem_of_getElem? (i := 22) rfl)
theorem km_191 : Cond.selects RX1 yX1_arc yX1_arc ∈ wsL_law := kmr_8 (List.mem_of_getElem? (i := 23) rfl)
theorem kmr_9 {w : Cond} (h : w ∈ wsL_law_r9) : w ∈ wsL_law := (List.mem_append_left _ (List.mem_append_left _ (List.mem_append_left _ (List.mem_append_left _ (List.mem_append_right _ (List.mem_append_right _ (List.mem_append_right _ (List.mem_append_right _ (List.mem_append_right _ (List.mem_append_right _ (List.mem_append_right _ (List.mem_append_right _ (List.mem_append_left _ h)))))))))))))
theorem km_192 : Cond.code yX1_arc cX1_arc 4 (some .int) ∈ wsL_law := kmr_9 (List.mem_of_getElem? (i := 0) rfl)
theorem km_193 : Cond.fieldLink RX1 96 "FloorQueue" "arcs" "I" ∈ wsL_law := kmr_9 (List.mem_of_getElem? (i := 1) rfl)
theorem km_194 : Cond.instantiable RX0 3 ∈ wsL_law := kmr_9 (List.mem_of_getElem? (i := 2) rfl)
theorem km_195 : Cond.initialized RX0 ∈ wsL_law := kmr_9 (List.mem_of_getElem? (i := 3) rfl)
theorem km_196 : Cond.instanceMethod yX0_init ∈ wsL_law := kmr_9 (List.mem_of_getElem? (i := 4) rfl)
theorem km_197 : Cond.code yX0_init cX0_init 4 none ∈ wsL_law := kmr_9 (List.mem_of_getElem? (i := 5) rfl)
theorem km_198 : Cond.methodLink RX0 1 objectInit ∈ wsL_law := kmr_9 (List.mem_of_getElem? (i := 6) rfl)
theorem km_199 : Cond.fieldLink RX0 7 "FloorQueue$Arc" "end" "I" ∈ wsL_law := kmr_9 (List.mem_of_getElem? (i := 7) rfl)
theorem km_200 : Cond.fieldLink RX0 13 "FloorQueue$Arc" "length" "I" ∈ wsL_law := kmr_9 (List.mem_of_getElem? (i := 8) rfl)
theorem km_201 : Cond.fieldLink RX0 16 "FloorQueue$Arc" "earlier" "LFloorQueue$Arc;" ∈ wsL_law := kmr_9 (List.mem_of_getElem? (i := 9) rfl)
theorem km_202 : Cond.methodLink RX1 102 yX1_forgetWays ∈ wsL_law := kmr_9 (List.mem_of_getElem? (i := 10) rfl)
theorem km_203 : Cond.instanceMethod yX1_forgetWays ∈ wsL_law := kmr_9 (List.mem_of_getElem? (i := 11) rfl)
theorem km_204 : Cond.selects RX1 yX1_forgetWays yX1_forgetWays ∈ wsL_law := kmr_9 (List.mem_of_getElem? (i := 12) rfl)
theorem km_205 : Cond.code yX1_forgetWays cX1_forgetWays 1 none ∈ wsL_law := kmr_9 (List.mem_of_getElem? (i := 13) rfl)
theorem km_206 : Cond.methodLink RL 64 yX2_arc ∈ wsL_law := kmr_9 (List.mem_of_getElem? (i := 14) rfl)
theorem km_207 : Cond.instanceMethod yX2_arc ∈ wsL_law := kmr_9 (List.mem_of_getElem? (i := 15) rfl)
theorem km_208 : Cond.selects RX2 yX2_arc yX2_arc ∈ wsL_law := kmr_9 (List.mem_of_getElem? (i := 16) rfl)
theorem km_209 : Cond.code yX2_arc cX2_arc 4 (some .int) ∈ wsL_law := kmr_9 (List.mem_of_getElem? (i := 17) rfl)
theorem km_210 : Cond.fieldLink RX2 68 "FloorQueueModel" "arcs" "I" ∈ wsL_law := kmr_9 (List.mem_of_getElem? (i := 18) rfl)
theorem km_211 : Cond.fieldLink RX2 71 "FloorQueueModel" "hasWays" "Z" ∈ wsL_law := kmr_9 (List.mem_of_getElem? (i := 19) rfl)
theorem km_212 : Cond.methodLink RL 65 yX1_run ∈ wsL_law := kmr_9 (List.mem_of_getElem? (i := 20) rfl)
theorem km_213 : Cond.instanceMethod yX1_run ∈ wsL_law := kmr_9 (List.mem_of_getElem? (i := 21) rfl)
theorem km_214 : Cond.selects RX1 yX1_run yX1_run ∈ wsL_law := kmr_9 (List.mem_of_getElem? (i := 22) rfl)
theorem km_215 : Cond.code yX1_run cX1_run 3 (some .int) ∈ wsL_law := kmr_9 (List.mem_of_getElem? (i := 23) rfl)
theorem kmr_10 {w : Cond} (h : w ∈ wsL_law_r10) : w ∈ wsL_law := (List.mem_append_left _ (List.mem_append_left _ (List.mem_append_left _ (List.mem_append_left _ (List.mem_append_right _ (List.mem_append_right _ (List.mem_append_right _ (List.mem_append_right _ (List.mem_append_right _ (List.mem_append_right _ (List.mem_append_right _ (List.mem_append_right _ (List.mem_append_right _ (List.mem_append_left _ h))))))))))))))
theorem km_216 : Cond.methodLink RX1 105 yX1_emptyQueue ∈ wsL_law := kmr_10 (List.mem_of_getElem? (i := 0) rfl)
theorem km_217 : Cond.instanceMethod yX1_emptyQueue ∈ wsL_law := kmr_10 (List.mem_of_getElem? (i := 1) rfl)
theorem km_218 : Cond.selects RX1 yX1_emptyQueue yX1_emptyQueue ∈ wsL_law := kmr_10 (List.mem_of_getElem? (i := 2) rfl)
theorem km_219 : Cond.code yX1_emptyQueue cX1_emptyQueue 1 none ∈ wsL_law := kmr_10 (List.mem_of_getElem? (i := 3) rfl)
theorem km_220 : Cond.methodLink RX1 108 yX1_push ∈ wsL_law := kmr_10 (List.mem_of_getElem? (i := 4) rfl)
theorem km_221 : Cond.methodLink RX1 111 yX1_takeNext ∈ wsL_law := kmr_10 (List.mem_of_getElem? (i := 5) rfl)
theorem km_222 : Cond.instanceMethod yX1_takeNext ∈ wsL_law := kmr_10 (List.mem_of_getElem? (i := 6) rfl)
theorem km_223 : Cond.selects RX1 yX1_takeNext yX1_takeNext ∈ wsL_law := kmr_10 (List.mem_of_getElem? (i := 7) rfl)
theorem km_224 : Cond.code yX1_takeNext cX1_takeNext 3 none ∈ wsL_law := kmr_10 (List.mem_of_getElem? (i := 8) rfl)
theorem km_225 : Cond.methodLink RX1 131 yX1_pop ∈ wsL_law := kmr_10 (List.mem_of_getElem? (i := 9) rfl)
theorem km_226 : Cond.methodLink RX1 134 yX1_tryWay ∈ wsL_law := kmr_10 (List.mem_of_getElem? (i := 10) rfl)
theorem km_227 : Cond.instanceMethod yX1_tryWay ∈ wsL_law := kmr_10 (List.mem_of_getElem? (i := 11) rfl)
theorem km_228 : Cond.selects RX1 yX1_tryWay yX1_tryWay ∈ wsL_law := kmr_10 (List.mem_of_getElem? (i := 12) rfl)
theorem km_229 : Cond.code yX1_tryWay cX1_tryWay 6 none ∈ wsL_law := kmr_10 (List.mem_of_getElem? (i := 13) rfl)
theorem km_230 : Cond.constantLong RX1 148 (2147483647) ∈ wsL_law := kmr_10 (List.mem_of_getElem? (i := 14) rfl)
theorem km_231 : Cond.methodLink RX1 150 yX1_lower ∈ wsL_law := kmr_10 (List.mem_of_getElem? (i := 15) rfl)
theorem km_232 : Cond.methodLink RX1 114 yX1_isSomeWayTooLong ∈ wsL_law := kmr_10 (List.mem_of_getElem? (i := 16) rfl)
theorem km_233 : Cond.instanceMethod yX1_isSomeWayTooLong ∈ wsL_law := kmr_10 (List.mem_of_getElem? (i := 17) rfl)
theorem km_234 : Cond.selects RX1 yX1_isSomeWayTooLong yX1_isSomeWayTooLong ∈ wsL_law := kmr_10 (List.mem_of_getElem? (i := 18) rfl)
theorem km_235 : Cond.code yX1_isSomeWayTooLong cX1_isSomeWayTooLong 2 (some .boolean) ∈ wsL_law := kmr_10 (List.mem_of_getElem? (i := 19) rfl)
theorem km_236 : Cond.methodLink RX1 153 yX1_leadsToUntaken ∈ wsL_law := kmr_10 (List.mem_of_getElem? (i := 20) rfl)
theorem km_237 : Cond.instanceMethod yX1_leadsToUntaken ∈ wsL_law := kmr_10 (List.mem_of_getElem? (i := 21) rfl)
theorem km_238 : Cond.selects RX1 yX1_leadsToUntaken yX1_leadsToUntaken ∈ wsL_law := kmr_10 (List.mem_of_getElem? (i := 22) rfl)
theorem km_239 : Cond.code yX1_leadsToUntaken cX1_leadsToUntaken 3 (some .boolean) ∈ wsL_law := kmr_10 (List.mem_of_getElem? (i := 23) rfl)
theorem kmr_11 {w : Cond} (h : w ∈ wsL_law_r11) : w ∈ wsL_law := (List.mem_append_left _ (List.mem_append_left _ (List.mem_append_left _ (List.mem_append_left _ (List.mem_append_right _ (List.mem_append_right _ (List.mem_append_right _ (List.mem_append_right _ (List.mem_append_right _ (List.mem_append_right _ (List.mem_append_right _ (List.mem_append_right _ (List.mem_append_right _ (List.mem_append_right _ (List.mem_append_left _ h)))))))))))))))
theorem km_240 : Cond.methodLink RL 68 yX2_run ∈ wsL_law := kmr_11 (List.mem_of_getElem? (i := 0) rfl)
theorem km_241 : Cond.instanceMethod yX2_run ∈ wsL_law := kmr_11 (List.mem_of_getElem? (i := 1) rfl)
theorem km_242 : Cond.selects RX2 yX2_run yX2_run ∈ wsL_law := kmr_11 (List.mem_of_getElem? (i := 2) rfl)
theorem km_243 : Cond.code yX2_run cX2_run 5 (some .int) ∈ wsL_law := kmr_11 (List.mem_of_getElem? (i := 3) rfl)
theorem km_244 : Cond.constant RX2 87 (2147483647) ∈ wsL_law := kmr_11 (List.mem_of_getElem? (i := 4) rfl)
theorem km_245 : Cond.methodLink RX2 77 yX2_push ∈ wsL_law := kmr_11 (List.mem_of_getElem? (i := 5) rfl)
theorem km_246 : Cond.methodLink RX2 83 yX2_size ∈ wsL_law := kmr_11 (List.mem_of_getElem? (i := 6) rfl)
theorem km_247 : Cond.methodLink RX2 88 yX2_pop ∈ wsL_law := kmr_11 (List.mem_of_getElem? (i := 7) rfl)
theorem km_248 : Cond.methodLink RX2 91 yX2_reach ∈ wsL_law := kmr_11 (List.mem_of_getElem? (i := 8) rfl)
theorem km_249 : Cond.instanceMethod yX2_reach ∈ wsL_law := kmr_11 (List.mem_of_getElem? (i := 9) rfl)
theorem km_250 : Cond.selects RX2 yX2_reach yX2_reach ∈ wsL_law := kmr_11 (List.mem_of_getElem? (i := 10) rfl)
theorem km_251 : Cond.code yX2_reach cX2_reach 6 none ∈ wsL_law := kmr_11 (List.mem_of_getElem? (i := 11) rfl)
theorem km_252 : Cond.constantLong RX2 75 (2147483647) ∈ wsL_law := kmr_11 (List.mem_of_getElem? (i := 12) rfl)
theorem km_253 : Cond.methodLink RX2 80 yX2_lower ∈ wsL_law := kmr_11 (List.mem_of_getElem? (i := 13) rfl)
theorem km_254 : Cond.methodLink RX2 95 yX2_spread ∈ wsL_law := kmr_11 (List.mem_of_getElem? (i := 14) rfl)
theorem km_255 : Cond.instanceMethod yX2_spread ∈ wsL_law := kmr_11 (List.mem_of_getElem? (i := 15) rfl)
theorem km_256 : Cond.selects RX2 yX2_spread yX2_spread ∈ wsL_law := kmr_11 (List.mem_of_getElem? (i := 16) rfl)
theorem km_257 : Cond.code yX2_spread cX2_spread 4 none ∈ wsL_law := kmr_11 (List.mem_of_getElem? (i := 17) rfl)
theorem km_258 : Cond.methodLink RL 69 yX1_distance ∈ wsL_law := kmr_11 (List.mem_of_getElem? (i := 18) rfl)
theorem km_259 : Cond.instanceMethod yX1_distance ∈ wsL_law := kmr_11 (List.mem_of_getElem? (i := 19) rfl)
theorem km_260 : Cond.selects RX1 yX1_distance yX1_distance ∈ wsL_law := kmr_11 (List.mem_of_getElem? (i := 20) rfl)
theorem km_261 : Cond.code yX1_distance cX1_distance 2 (some .int) ∈ wsL_law := kmr_11 (List.mem_of_getElem? (i := 21) rfl)
theorem km_262 : Cond.methodLink RL 72 yX2_distance ∈ wsL_law := kmr_11 (List.mem_of_getElem? (i := 22) rfl)
theorem km_263 : Cond.instanceMethod yX2_distance ∈ wsL_law := kmr_11 (List.mem_of_getElem? (i := 23) rfl)
theorem kmr_12 {w : Cond} (h : w ∈ wsL_law_r12) : w ∈ wsL_law := (List.mem_append_left _ (List.mem_append_left _ (List.mem_append_left _ (List.mem_append_left _ (List.mem_append_right _ (List.mem_append_right _ (List.mem_append_right _ (List.mem_append_right _ (List.mem_append_right _ (List.mem_append_right _ (List.mem_append_right _ (List.mem_append_right _ (List.mem_append_right _ (List.mem_append_right _ (List.mem_append_right _ (List.mem_append_left _ h))))))))))))))))
theorem km_264 : Cond.selects RX2 yX2_distance yX2_distance ∈ wsL_law := kmr_12 (List.mem_of_getElem? (i := 0) rfl)
theorem km_265 : Cond.code yX2_distance cX2_distance 2 (some .int) ∈ wsL_law := kmr_12 (List.mem_of_getElem? (i := 1) rfl)
theorem km_266 : Cond.methodLink RL 73 yX1_before ∈ wsL_law := kmr_12 (List.mem_of_getElem? (i := 2) rfl)
theorem km_267 : Cond.instanceMethod yX1_before ∈ wsL_law := kmr_12 (List.mem_of_getElem? (i := 3) rfl)
theorem km_268 : Cond.selects RX1 yX1_before yX1_before ∈ wsL_law := kmr_12 (List.mem_of_getElem? (i := 4) rfl)
theorem km_269 : Cond.code yX1_before cX1_before 2 (some .int) ∈ wsL_law := kmr_12 (List.mem_of_getElem? (i := 5) rfl)
theorem km_270 : Cond.methodLink RL 76 yX2_before ∈ wsL_law := kmr_12 (List.mem_of_getElem? (i := 6) rfl)
theorem km_271 : Cond.instanceMethod yX2_before ∈ wsL_law := kmr_12 (List.mem_of_getElem? (i := 7) rfl)
theorem km_272 : Cond.selects RX2 yX2_before yX2_before ∈ wsL_law := kmr_12 (List.mem_of_getElem? (i := 8) rfl)
theorem km_273 : Cond.code yX2_before cX2_before 2 (some .int) ∈ wsL_law := kmr_12 (List.mem_of_getElem? (i := 9) rfl)
theorem km_274 : Cond.methodLink RL 77 yX1_sound ∈ wsL_law := kmr_12 (List.mem_of_getElem? (i := 10) rfl)
theorem km_275 : Cond.instanceMethod yX1_sound ∈ wsL_law := kmr_12 (List.mem_of_getElem? (i := 11) rfl)
theorem km_276 : Cond.selects RX1 yX1_sound yX1_sound ∈ wsL_law := kmr_12 (List.mem_of_getElem? (i := 12) rfl)
theorem km_277 : Cond.code yX1_sound cX1_sound 2 (some .boolean) ∈ wsL_law := kmr_12 (List.mem_of_getElem? (i := 13) rfl)
theorem km_278 : Cond.constantLong RX1 121 (32) ∈ wsL_law := kmr_12 (List.mem_of_getElem? (i := 14) rfl)
theorem km_279 : Cond.methodLink RX1 118 yX1_isWhereItBelongs ∈ wsL_law := kmr_12 (List.mem_of_getElem? (i := 15) rfl)
theorem km_280 : Cond.instanceMethod yX1_isWhereItBelongs ∈ wsL_law := kmr_12 (List.mem_of_getElem? (i := 16) rfl)
theorem km_281 : Cond.selects RX1 yX1_isWhereItBelongs yX1_isWhereItBelongs ∈ wsL_law := kmr_12 (List.mem_of_getElem? (i := 17) rfl)
theorem km_282 : Cond.code yX1_isWhereItBelongs cX1_isWhereItBelongs 2 (some .boolean) ∈ wsL_law := kmr_12 (List.mem_of_getElem? (i := 18) rfl)
theorem km_283 : Cond.methodLink RL 81 yX2_sound ∈ wsL_law := kmr_12 (List.mem_of_getElem? (i := 19) rfl)
theorem km_284 : Cond.instanceMethod yX2_sound ∈ wsL_law := kmr_12 (List.mem_of_getElem? (i := 20) rfl)
theorem km_285 : Cond.selects RX2 yX2_sound yX2_sound ∈ wsL_law := kmr_12 (List.mem_of_getElem? (i := 21) rfl)
theorem km_286 : Cond.code yX2_sound cX2_sound 1 (some .boolean) ∈ wsL_law := kmr_12 (List.mem_of_getElem? (i := 22) rfl)
theorem km_287 : Cond.methodLink RL 82 yX1_count ∈ wsL_law := kmr_12 (List.mem_of_getElem? (i := 23) rfl)
theorem kmr_13 {w : Cond} (h : w ∈ wsL_law_r13) : w ∈ wsL_law := (List.mem_append_left _ (List.mem_append_left _ (List.mem_append_left _ (List.mem_append_left _ (List.mem_append_right _ (List.mem_append_right _ (List.mem_append_right _ (List.mem_append_right _ (List.mem_append_right _ (List.mem_append_right _ (List.mem_append_right _ (List.mem_append_right _ (List.mem_append_right _ (List.mem_append_right _ (List.mem_append_right _ (List.mem_append_right _ h))))))))))))))))
theorem km_288 : Cond.instanceMethod yX1_count ∈ wsL_law := kmr_13 (List.mem_of_getElem? (i := 0) rfl)
theorem km_289 : Cond.selects RX1 yX1_count yX1_count ∈ wsL_law := kmr_13 (List.mem_of_getElem? (i := 1) rfl)
theorem km_290 : Cond.code yX1_count cX1_count 2 (some .int) ∈ wsL_law := kmr_13 (List.mem_of_getElem? (i := 2) rfl)
theorem km_291 : Cond.methodLink RL 85 yX2_count ∈ wsL_law := kmr_13 (List.mem_of_getElem? (i := 3) rfl)
theorem km_292 : Cond.instanceMethod yX2_count ∈ wsL_law := kmr_13 (List.mem_of_getElem? (i := 4) rfl)
theorem km_293 : Cond.selects RX2 yX2_count yX2_count ∈ wsL_law := kmr_13 (List.mem_of_getElem? (i := 5) rfl)
theorem km_294 : Cond.code yX2_count cX2_count 2 (some .int) ∈ wsL_law := kmr_13 (List.mem_of_getElem? (i := 6) rfl)
set_option maxRecDepth 20000 in
theorem km_good : wsL_law.all goodWord = true := by decide +kernel
theorem km_in {c : Cond} (h : c ∈ wsL_law) : GoodIn wsL_law (c :: wsL_law) := fun w hw => by
  have hm : w ∈ wsL_law := (List.mem_cons.mp hw).elim (fun e => e ▸ h) id
  exact ⟨hm, good_of_word (List.all_eq_true.mp km_good w hm)⟩
theorem km_app {a b : List Cond} (ha : ∀ w ∈ a, w ∈ wsL_law) (hb : GoodIn wsL_law b) : GoodIn wsL_law (a ++ b) := fun w hw => (List.mem_append.mp hw).elim (fun h => ⟨ha w h, good_of_word (List.all_eq_true.mp km_good w (ha w h))⟩) (hb w)
theorem km_four {a b c d : Cond} (ha : a ∈ wsL_law) (hb : b ∈ wsL_law) (hc : c ∈ wsL_law) (hd : d ∈ wsL_law) : ∀ w ∈ ([a, b, c, d] : List Cond), w ∈ wsL_law := fun w h => by
  simp only [List.mem_cons, List.not_mem_nil, or_false] at h
  rcases h with rfl | rfl | rfl | rfl <;> assumption
theorem km_three {a b c : Cond} (ha : a ∈ wsL_law) (hb : b ∈ wsL_law) (hc : c ∈ wsL_law) : ∀ w ∈ ([a, b, c] : List Cond), w ∈ wsL_law := fun w h => by
  simp only [List.mem_cons, List.not_mem_nil, or_false] at h
  rcases h with rfl | rfl | rfl <;> assumption
end
section
theorem dX0_init_0 : decode cX0_init 0 = .ok (.aload_n 0, 1) := by decide +kernel
theorem dX0_init_1 : decode cX0_init 1 = .ok (.invokespecial 1, 3) := by decide +kernel
theorem dX0_init_4 : decode cX0_init 4 = .ok (.aload_n 0, 1) := by decide +kernel
theorem dX0_init_5 : decode cX0_init 5 = .ok (.iload_n 1, 1) := by decide +kernel
theorem dX0_init_6 : decode cX0_init 6 = .ok (.putfield 7, 3) := by decide +kernel
theorem dX0_init_9 : decode cX0_init 9 = .ok (.aload_n 0, 1) := by decide +kernel
theorem dX0_init_10 : decode cX0_init 10 = .ok (.iload_n 2, 1) := by decide +kernel
theorem dX0_init_11 : decode cX0_init 11 = .ok (.putfield 13, 3) := by decide +kernel
theorem dX0_init_14 : decode cX0_init 14 = .ok (.aload_n 0, 1) := by decide +kernel
theorem dX0_init_15 : decode cX0_init 15 = .ok (.aload_n 3, 1) := by decide +kernel
theorem dX0_init_16 : decode cX0_init 16 = .ok (.putfield 16, 3) := by decide +kernel
theorem dX0_init_19 : decode cX0_init 19 = .ok (.return_, 1) := by decide +kernel
theorem dX1_init_0 : decode cX1_init 0 = .ok (.aload_n 0, 1) := by decide +kernel
theorem dX1_init_1 : decode cX1_init 1 = .ok (.invokespecial 1, 3) := by decide +kernel
theorem dX1_init_4 : decode cX1_init 4 = .ok (.aload_n 0, 1) := by decide +kernel
theorem dX1_init_5 : decode cX1_init 5 = .ok (.iconst 1, 1) := by decide +kernel
theorem dX1_init_6 : decode cX1_init 6 = .ok (.iload_n 1, 1) := by decide +kernel
theorem dX1_init_7 : decode cX1_init 7 = .ok (.bipush 40, 2) := by decide +kernel
theorem dX1_init_9 : decode cX1_init 9 = .ok (.invokestatic 9, 3) := by decide +kernel
theorem dX1_init_12 : decode cX1_init 12 = .ok (.invokestatic 15, 3) := by decide +kernel
theorem dX1_init_15 : decode cX1_init 15 = .ok (.putfield 18, 3) := by decide +kernel
theorem dX1_init_18 : decode cX1_init 18 = .ok (.aload_n 0, 1) := by decide +kernel
theorem dX1_init_19 : decode cX1_init 19 = .ok (.iconst 1, 1) := by decide +kernel
theorem dX1_init_20 : decode cX1_init 20 = .ok (.iload_n 2, 1) := by decide +kernel
theorem dX1_init_21 : decode cX1_init 21 = .ok (.sipush 300, 3) := by decide +kernel
theorem dX1_init_24 : decode cX1_init 24 = .ok (.invokestatic 9, 3) := by decide +kernel
theorem dX1_init_27 : decode cX1_init 27 = .ok (.invokestatic 15, 3) := by decide +kernel
theorem dX1_init_30 : decode cX1_init 30 = .ok (.putfield 22, 3) := by decide +kernel
theorem dX1_init_33 : decode cX1_init 33 = .ok (.aload_n 0, 1) := by decide +kernel
theorem dX1_init_34 : decode cX1_init 34 = .ok (.iconst 0, 1) := by decide +kernel
theorem dX1_init_35 : decode cX1_init 35 = .ok (.iload_n 3, 1) := by decide +kernel
theorem dX1_init_36 : decode cX1_init 36 = .ok (.invokestatic 15, 3) := by decide +kernel
theorem dX1_init_39 : decode cX1_init 39 = .ok (.putfield 25, 3) := by decide +kernel
theorem dX1_init_42 : decode cX1_init 42 = .ok (.aload_n 0, 1) := by decide +kernel
theorem dX1_init_43 : decode cX1_init 43 = .ok (.aload_n 0, 1) := by decide +kernel
theorem dX1_init_44 : decode cX1_init 44 = .ok (.getfield 18, 3) := by decide +kernel
theorem dX1_init_47 : decode cX1_init 47 = .ok (.newarray .int, 2) := by decide +kernel
theorem dX1_init_49 : decode cX1_init 49 = .ok (.putfield 28, 3) := by decide +kernel
theorem dX1_init_52 : decode cX1_init 52 = .ok (.aload_n 0, 1) := by decide +kernel
theorem dX1_init_53 : decode cX1_init 53 = .ok (.aload_n 0, 1) := by decide +kernel
theorem dX1_init_54 : decode cX1_init 54 = .ok (.getfield 18, 3) := by decide +kernel
theorem dX1_init_57 : decode cX1_init 57 = .ok (.newarray .int, 2) := by decide +kernel
theorem dX1_init_59 : decode cX1_init 59 = .ok (.putfield 32, 3) := by decide +kernel
theorem dX1_init_62 : decode cX1_init 62 = .ok (.aload_n 0, 1) := by decide +kernel
theorem dX1_init_63 : decode cX1_init 63 = .ok (.bipush 32, 2) := by decide +kernel
theorem dX1_init_65 : decode cX1_init 65 = .ok (.newarray .int, 2) := by decide +kernel
theorem dX1_init_67 : decode cX1_init 67 = .ok (.putfield 35, 3) := by decide +kernel
theorem dX1_init_70 : decode cX1_init 70 = .ok (.aload_n 0, 1) := by decide +kernel
theorem dX1_init_71 : decode cX1_init 71 = .ok (.aload_n 0, 1) := by decide +kernel
theorem dX1_init_72 : decode cX1_init 72 = .ok (.getfield 18, 3) := by decide +kernel
theorem dX1_init_75 : decode cX1_init 75 = .ok (.anewarray 38, 3) := by decide +kernel
theorem dX1_init_78 : decode cX1_init 78 = .ok (.putfield 40, 3) := by decide +kernel
theorem dX1_init_81 : decode cX1_init 81 = .ok (.aload_n 0, 1) := by decide +kernel
theorem dX1_init_82 : decode cX1_init 82 = .ok (.aload_n 0, 1) := by decide +kernel
theorem dX1_init_83 : decode cX1_init 83 = .ok (.getfield 18, 3) := by decide +kernel
theorem dX1_init_86 : decode cX1_init 86 = .ok (.newarray .int, 2) := by decide +kernel
theorem dX1_init_88 : decode cX1_init 88 = .ok (.putfield 44, 3) := by decide +kernel
theorem dX1_init_91 : decode cX1_init 91 = .ok (.aload_n 0, 1) := by decide +kernel
theorem dX1_init_92 : decode cX1_init 92 = .ok (.aload_n 0, 1) := by decide +kernel
theorem dX1_init_93 : decode cX1_init 93 = .ok (.getfield 18, 3) := by decide +kernel
theorem dX1_init_96 : decode cX1_init 96 = .ok (.newarray .int, 2) := by decide +kernel
theorem dX1_init_98 : decode cX1_init 98 = .ok (.putfield 47, 3) := by decide +kernel
theorem dX1_init_101 : decode cX1_init 101 = .ok (.aload_n 0, 1) := by decide +kernel
theorem dX1_init_102 : decode cX1_init 102 = .ok (.getfield 32, 3) := by decide +kernel
theorem dX1_init_105 : decode cX1_init 105 = .ok (.iconst (-1), 1) := by decide +kernel
theorem dX1_init_106 : decode cX1_init 106 = .ok (.invokestatic 50, 3) := by decide +kernel
theorem dX1_init_109 : decode cX1_init 109 = .ok (.aload_n 0, 1) := by decide +kernel
theorem dX1_init_110 : decode cX1_init 110 = .ok (.getfield 44, 3) := by decide +kernel
theorem dX1_init_113 : decode cX1_init 113 = .ok (.iconst (-1), 1) := by decide +kernel
theorem dX1_init_114 : decode cX1_init 114 = .ok (.invokestatic 50, 3) := by decide +kernel
theorem dX1_init_117 : decode cX1_init 117 = .ok (.aload_n 0, 1) := by decide +kernel
theorem dX1_init_118 : decode cX1_init 118 = .ok (.getfield 47, 3) := by decide +kernel
theorem dX1_init_121 : decode cX1_init 121 = .ok (.iconst (-1), 1) := by decide +kernel
theorem dX1_init_122 : decode cX1_init 122 = .ok (.invokestatic 50, 3) := by decide +kernel
theorem dX1_init_125 : decode cX1_init 125 = .ok (.return_, 1) := by decide +kernel
theorem dX1_push_0 : decode cX1_push 0 = .ok (.aload_n 0, 1) := by decide +kernel
theorem dX1_push_1 : decode cX1_push 1 = .ok (.iload_n 1, 1) := by decide +kernel
theorem dX1_push_2 : decode cX1_push 2 = .ok (.invokevirtual 56, 3) := by decide +kernel
theorem dX1_push_5 : decode cX1_push 5 = .ok (.ifCond .eq 11, 3) := by decide +kernel
theorem dX1_push_8 : decode cX1_push 8 = .ok (.aload_n 0, 1) := by decide +kernel
theorem dX1_push_9 : decode cX1_push 9 = .ok (.iload_n 1, 1) := by decide +kernel
theorem dX1_push_10 : decode cX1_push 10 = .ok (.invokevirtual 60, 3) := by decide +kernel
theorem dX1_push_13 : decode cX1_push 13 = .ok (.ifCond .eq 5, 3) := by decide +kernel
theorem dX1_push_16 : decode cX1_push 16 = .ok (.iconst (-1), 1) := by decide +kernel
theorem dX1_push_17 : decode cX1_push 17 = .ok (.ireturn, 1) := by decide +kernel
theorem dX1_push_18 : decode cX1_push 18 = .ok (.iload_n 2, 1) := by decide +kernel
theorem dX1_push_19 : decode cX1_push 19 = .ok (.aload_n 0, 1) := by decide +kernel
theorem dX1_push_20 : decode cX1_push 20 = .ok (.getfield 63, 3) := by decide +kernel
theorem dX1_push_23 : decode cX1_push 23 = .ok (.if_icmp .ge 6, 3) := by decide +kernel
theorem dX1_push_26 : decode cX1_push 26 = .ok (.bipush (-2), 2) := by decide +kernel
theorem dX1_push_28 : decode cX1_push 28 = .ok (.ireturn, 1) := by decide +kernel
theorem dX1_push_29 : decode cX1_push 29 = .ok (.aload_n 0, 1) := by decide +kernel
theorem dX1_push_30 : decode cX1_push 30 = .ok (.dup, 1) := by decide +kernel
theorem dX1_push_31 : decode cX1_push 31 = .ok (.getfield 66, 3) := by decide +kernel
theorem dX1_push_34 : decode cX1_push 34 = .ok (.iconst 1, 1) := by decide +kernel
theorem dX1_push_35 : decode cX1_push 35 = .ok (.iadd, 1) := by decide +kernel
theorem dX1_push_36 : decode cX1_push 36 = .ok (.putfield 66, 3) := by decide +kernel
theorem dX1_push_39 : decode cX1_push 39 = .ok (.aload_n 0, 1) := by decide +kernel
theorem dX1_push_40 : decode cX1_push 40 = .ok (.dup, 1) := by decide +kernel
theorem dX1_push_41 : decode cX1_push 41 = .ok (.getfield 69, 3) := by decide +kernel
theorem dX1_push_44 : decode cX1_push 44 = .ok (.iconst 1, 1) := by decide +kernel
theorem dX1_push_45 : decode cX1_push 45 = .ok (.iadd, 1) := by decide +kernel
theorem dX1_push_46 : decode cX1_push 46 = .ok (.putfield 69, 3) := by decide +kernel
theorem dX1_push_49 : decode cX1_push 49 = .ok (.aload_n 0, 1) := by decide +kernel
theorem dX1_push_50 : decode cX1_push 50 = .ok (.getfield 28, 3) := by decide +kernel
theorem dX1_push_53 : decode cX1_push 53 = .ok (.iload_n 1, 1) := by decide +kernel
theorem dX1_push_54 : decode cX1_push 54 = .ok (.iload_n 2, 1) := by decide +kernel
theorem dX1_push_55 : decode cX1_push 55 = .ok (.iastore, 1) := by decide +kernel
theorem dX1_push_56 : decode cX1_push 56 = .ok (.aload_n 0, 1) := by decide +kernel
theorem dX1_push_57 : decode cX1_push 57 = .ok (.iload_n 1, 1) := by decide +kernel
theorem dX1_push_58 : decode cX1_push 58 = .ok (.invokevirtual 72, 3) := by decide +kernel
theorem dX1_push_61 : decode cX1_push 61 = .ok (.iconst 0, 1) := by decide +kernel
theorem dX1_push_62 : decode cX1_push 62 = .ok (.ireturn, 1) := by decide +kernel
theorem dX1_lower_0 : decode cX1_lower 0 = .ok (.aload_n 0, 1) := by decide +kernel
theorem dX1_lower_1 : decode cX1_lower 1 = .ok (.iload_n 1, 1) := by decide +kernel
theorem dX1_lower_2 : decode cX1_lower 2 = .ok (.invokevirtual 60, 3) := by decide +kernel
theorem dX1_lower_5 : decode cX1_lower 5 = .ok (.ifCond .ne 5, 3) := by decide +kernel
theorem dX1_lower_8 : decode cX1_lower 8 = .ok (.iconst (-1), 1) := by decide +kernel
theorem dX1_lower_9 : decode cX1_lower 9 = .ok (.ireturn, 1) := by decide +kernel
theorem dX1_lower_10 : decode cX1_lower 10 = .ok (.iload_n 2, 1) := by decide +kernel
theorem dX1_lower_11 : decode cX1_lower 11 = .ok (.aload_n 0, 1) := by decide +kernel
theorem dX1_lower_12 : decode cX1_lower 12 = .ok (.getfield 63, 3) := by decide +kernel
theorem dX1_lower_15 : decode cX1_lower 15 = .ok (.if_icmp .lt 13, 3) := by decide +kernel
theorem dX1_lower_18 : decode cX1_lower 18 = .ok (.iload_n 2, 1) := by decide +kernel
theorem dX1_lower_19 : decode cX1_lower 19 = .ok (.aload_n 0, 1) := by decide +kernel
theorem dX1_lower_20 : decode cX1_lower 20 = .ok (.getfield 28, 3) := by decide +kernel
theorem dX1_lower_23 : decode cX1_lower 23 = .ok (.iload_n 1, 1) := by decide +kernel
theorem dX1_lower_24 : decode cX1_lower 24 = .ok (.iaload, 1) := by decide +kernel
theorem dX1_lower_25 : decode cX1_lower 25 = .ok (.if_icmp .le 6, 3) := by decide +kernel
theorem dX1_lower_28 : decode cX1_lower 28 = .ok (.bipush (-2), 2) := by decide +kernel
theorem dX1_lower_30 : decode cX1_lower 30 = .ok (.ireturn, 1) := by decide +kernel
theorem dX1_lower_31 : decode cX1_lower 31 = .ok (.iload_n 2, 1) := by decide +kernel
theorem dX1_lower_32 : decode cX1_lower 32 = .ok (.aload_n 0, 1) := by decide +kernel
theorem dX1_lower_33 : decode cX1_lower 33 = .ok (.getfield 28, 3) := by decide +kernel
theorem dX1_lower_36 : decode cX1_lower 36 = .ok (.iload_n 1, 1) := by decide +kernel
theorem dX1_lower_37 : decode cX1_lower 37 = .ok (.iaload, 1) := by decide +kernel
theorem dX1_lower_38 : decode cX1_lower 38 = .ok (.if_icmp .ge 39, 3) := by decide +kernel
theorem dX1_lower_41 : decode cX1_lower 41 = .ok (.aload_n 0, 1) := by decide +kernel
theorem dX1_lower_42 : decode cX1_lower 42 = .ok (.dup, 1) := by decide +kernel
theorem dX1_lower_43 : decode cX1_lower 43 = .ok (.getfield 69, 3) := by decide +kernel
theorem dX1_lower_46 : decode cX1_lower 46 = .ok (.iconst 1, 1) := by decide +kernel
theorem dX1_lower_47 : decode cX1_lower 47 = .ok (.iadd, 1) := by decide +kernel
theorem dX1_lower_48 : decode cX1_lower 48 = .ok (.putfield 69, 3) := by decide +kernel
theorem dX1_lower_51 : decode cX1_lower 51 = .ok (.aload_n 0, 1) := by decide +kernel
theorem dX1_lower_52 : decode cX1_lower 52 = .ok (.getfield 28, 3) := by decide +kernel
theorem dX1_lower_55 : decode cX1_lower 55 = .ok (.iload_n 1, 1) := by decide +kernel
theorem dX1_lower_56 : decode cX1_lower 56 = .ok (.iload_n 2, 1) := by decide +kernel
theorem dX1_lower_57 : decode cX1_lower 57 = .ok (.iastore, 1) := by decide +kernel
theorem dX1_lower_58 : decode cX1_lower 58 = .ok (.aload_n 0, 1) := by decide +kernel
theorem dX1_lower_59 : decode cX1_lower 59 = .ok (.iload_n 2, 1) := by decide +kernel
theorem dX1_lower_60 : decode cX1_lower 60 = .ok (.invokevirtual 76, 3) := by decide +kernel
theorem dX1_lower_63 : decode cX1_lower 63 = .ok (.aload_n 0, 1) := by decide +kernel
theorem dX1_lower_64 : decode cX1_lower 64 = .ok (.getfield 32, 3) := by decide +kernel
theorem dX1_lower_67 : decode cX1_lower 67 = .ok (.iload_n 1, 1) := by decide +kernel
theorem dX1_lower_68 : decode cX1_lower 68 = .ok (.iaload, 1) := by decide +kernel
theorem dX1_lower_69 : decode cX1_lower 69 = .ok (.if_icmp .eq 8, 3) := by decide +kernel
theorem dX1_lower_72 : decode cX1_lower 72 = .ok (.aload_n 0, 1) := by decide +kernel
theorem dX1_lower_73 : decode cX1_lower 73 = .ok (.iload_n 1, 1) := by decide +kernel
theorem dX1_lower_74 : decode cX1_lower 74 = .ok (.invokevirtual 72, 3) := by decide +kernel
theorem dX1_lower_77 : decode cX1_lower 77 = .ok (.iconst 0, 1) := by decide +kernel
theorem dX1_lower_78 : decode cX1_lower 78 = .ok (.ireturn, 1) := by decide +kernel
theorem dX1_pop_0 : decode cX1_pop 0 = .ok (.aload_n 0, 1) := by decide +kernel
theorem dX1_pop_1 : decode cX1_pop 1 = .ok (.invokevirtual 80, 3) := by decide +kernel
theorem dX1_pop_4 : decode cX1_pop 4 = .ok (.istore_n 1, 1) := by decide +kernel
theorem dX1_pop_5 : decode cX1_pop 5 = .ok (.aload_n 0, 1) := by decide +kernel
theorem dX1_pop_6 : decode cX1_pop 6 = .ok (.iload_n 1, 1) := by decide +kernel
theorem dX1_pop_7 : decode cX1_pop 7 = .ok (.invokevirtual 84, 3) := by decide +kernel
theorem dX1_pop_10 : decode cX1_pop 10 = .ok (.istore_n 2, 1) := by decide +kernel
theorem dX1_pop_11 : decode cX1_pop 11 = .ok (.aload_n 0, 1) := by decide +kernel
theorem dX1_pop_12 : decode cX1_pop 12 = .ok (.iload_n 2, 1) := by decide +kernel
theorem dX1_pop_13 : decode cX1_pop 13 = .ok (.invokevirtual 60, 3) := by decide +kernel
theorem dX1_pop_16 : decode cX1_pop 16 = .ok (.ifCond .ne 5, 3) := by decide +kernel
theorem dX1_pop_19 : decode cX1_pop 19 = .ok (.iconst (-1), 1) := by decide +kernel
theorem dX1_pop_20 : decode cX1_pop 20 = .ok (.ireturn, 1) := by decide +kernel
theorem dX1_pop_21 : decode cX1_pop 21 = .ok (.aload_n 0, 1) := by decide +kernel
theorem dX1_pop_22 : decode cX1_pop 22 = .ok (.aload_n 0, 1) := by decide +kernel
theorem dX1_pop_23 : decode cX1_pop 23 = .ok (.getfield 28, 3) := by decide +kernel
theorem dX1_pop_26 : decode cX1_pop 26 = .ok (.iload_n 2, 1) := by decide +kernel
theorem dX1_pop_27 : decode cX1_pop 27 = .ok (.iaload, 1) := by decide +kernel
theorem dX1_pop_28 : decode cX1_pop 28 = .ok (.putfield 63, 3) := by decide +kernel
theorem dX1_pop_31 : decode cX1_pop 31 = .ok (.iload_n 1, 1) := by decide +kernel
theorem dX1_pop_32 : decode cX1_pop 32 = .ok (.ifCond .le 8, 3) := by decide +kernel
theorem dX1_pop_35 : decode cX1_pop 35 = .ok (.aload_n 0, 1) := by decide +kernel
theorem dX1_pop_36 : decode cX1_pop 36 = .ok (.iload_n 1, 1) := by decide +kernel
theorem dX1_pop_37 : decode cX1_pop 37 = .ok (.invokevirtual 87, 3) := by decide +kernel
theorem dX1_pop_40 : decode cX1_pop 40 = .ok (.aload_n 0, 1) := by decide +kernel
theorem dX1_pop_41 : decode cX1_pop 41 = .ok (.iload_n 2, 1) := by decide +kernel
theorem dX1_pop_42 : decode cX1_pop 42 = .ok (.invokevirtual 90, 3) := by decide +kernel
theorem dX1_pop_45 : decode cX1_pop 45 = .ok (.iload_n 2, 1) := by decide +kernel
theorem dX1_pop_46 : decode cX1_pop 46 = .ok (.ireturn, 1) := by decide +kernel
theorem dX1_floor_0 : decode cX1_floor 0 = .ok (.aload_n 0, 1) := by decide +kernel
theorem dX1_floor_1 : decode cX1_floor 1 = .ok (.getfield 63, 3) := by decide +kernel
theorem dX1_floor_4 : decode cX1_floor 4 = .ok (.ireturn, 1) := by decide +kernel
theorem dX1_size_0 : decode cX1_size 0 = .ok (.aload_n 0, 1) := by decide +kernel
theorem dX1_size_1 : decode cX1_size 1 = .ok (.getfield 66, 3) := by decide +kernel
theorem dX1_size_4 : decode cX1_size 4 = .ok (.ireturn, 1) := by decide +kernel
theorem dX1_key_0 : decode cX1_key 0 = .ok (.aload_n 0, 1) := by decide +kernel
theorem dX1_key_1 : decode cX1_key 1 = .ok (.iload_n 1, 1) := by decide +kernel
theorem dX1_key_2 : decode cX1_key 2 = .ok (.invokevirtual 60, 3) := by decide +kernel
theorem dX1_key_5 : decode cX1_key 5 = .ok (.ifCond .eq 12, 3) := by decide +kernel
theorem dX1_key_8 : decode cX1_key 8 = .ok (.aload_n 0, 1) := by decide +kernel
theorem dX1_key_9 : decode cX1_key 9 = .ok (.getfield 28, 3) := by decide +kernel
theorem dX1_key_12 : decode cX1_key 12 = .ok (.iload_n 1, 1) := by decide +kernel
theorem dX1_key_13 : decode cX1_key 13 = .ok (.iaload, 1) := by decide +kernel
theorem dX1_key_14 : decode cX1_key 14 = .ok (.goto 4, 3) := by decide +kernel
theorem dX1_key_17 : decode cX1_key 17 = .ok (.iconst (-1), 1) := by decide +kernel
theorem dX1_key_18 : decode cX1_key 18 = .ok (.ireturn, 1) := by decide +kernel
theorem dX1_bucket_0 : decode cX1_bucket 0 = .ok (.aload_n 0, 1) := by decide +kernel
theorem dX1_bucket_1 : decode cX1_bucket 1 = .ok (.iload_n 1, 1) := by decide +kernel
theorem dX1_bucket_2 : decode cX1_bucket 2 = .ok (.invokevirtual 60, 3) := by decide +kernel
theorem dX1_bucket_5 : decode cX1_bucket 5 = .ok (.ifCond .eq 12, 3) := by decide +kernel
theorem dX1_bucket_8 : decode cX1_bucket 8 = .ok (.aload_n 0, 1) := by decide +kernel
theorem dX1_bucket_9 : decode cX1_bucket 9 = .ok (.getfield 32, 3) := by decide +kernel
theorem dX1_bucket_12 : decode cX1_bucket 12 = .ok (.iload_n 1, 1) := by decide +kernel
theorem dX1_bucket_13 : decode cX1_bucket 13 = .ok (.iaload, 1) := by decide +kernel
theorem dX1_bucket_14 : decode cX1_bucket 14 = .ok (.goto 4, 3) := by decide +kernel
theorem dX1_bucket_17 : decode cX1_bucket 17 = .ok (.iconst (-1), 1) := by decide +kernel
theorem dX1_bucket_18 : decode cX1_bucket 18 = .ok (.ireturn, 1) := by decide +kernel
theorem dX1_many_0 : decode cX1_many 0 = .ok (.iload_n 1, 1) := by decide +kernel
theorem dX1_many_1 : decode cX1_many 1 = .ok (.ifCond .lt 18, 3) := by decide +kernel
theorem dX1_many_4 : decode cX1_many 4 = .ok (.iload_n 1, 1) := by decide +kernel
theorem dX1_many_5 : decode cX1_many 5 = .ok (.bipush 32, 2) := by decide +kernel
theorem dX1_many_7 : decode cX1_many 7 = .ok (.if_icmp .ge 12, 3) := by decide +kernel
theorem dX1_many_10 : decode cX1_many 10 = .ok (.aload_n 0, 1) := by decide +kernel
theorem dX1_many_11 : decode cX1_many 11 = .ok (.getfield 35, 3) := by decide +kernel
theorem dX1_many_14 : decode cX1_many 14 = .ok (.iload_n 1, 1) := by decide +kernel
theorem dX1_many_15 : decode cX1_many 15 = .ok (.iaload, 1) := by decide +kernel
theorem dX1_many_16 : decode cX1_many 16 = .ok (.goto 4, 3) := by decide +kernel
theorem dX1_many_19 : decode cX1_many 19 = .ok (.iconst (-1), 1) := by decide +kernel
theorem dX1_many_20 : decode cX1_many 20 = .ok (.ireturn, 1) := by decide +kernel
theorem dX1_placed_0 : decode cX1_placed 0 = .ok (.aload_n 0, 1) := by decide +kernel
theorem dX1_placed_1 : decode cX1_placed 1 = .ok (.getfield 93, 3) := by decide +kernel
theorem dX1_placed_4 : decode cX1_placed 4 = .ok (.ireturn, 1) := by decide +kernel
theorem dX1_arc_0 : decode cX1_arc 0 = .ok (.aload_n 0, 1) := by decide +kernel
theorem dX1_arc_1 : decode cX1_arc 1 = .ok (.iload_n 1, 1) := by decide +kernel
theorem dX1_arc_2 : decode cX1_arc 2 = .ok (.invokevirtual 56, 3) := by decide +kernel
theorem dX1_arc_5 : decode cX1_arc 5 = .ok (.ifCond .eq 11, 3) := by decide +kernel
theorem dX1_arc_8 : decode cX1_arc 8 = .ok (.aload_n 0, 1) := by decide +kernel
theorem dX1_arc_9 : decode cX1_arc 9 = .ok (.iload_n 2, 1) := by decide +kernel
theorem dX1_arc_10 : decode cX1_arc 10 = .ok (.invokevirtual 56, 3) := by decide +kernel
theorem dX1_arc_13 : decode cX1_arc 13 = .ok (.ifCond .ne 5, 3) := by decide +kernel
theorem dX1_arc_16 : decode cX1_arc 16 = .ok (.iconst (-1), 1) := by decide +kernel
theorem dX1_arc_17 : decode cX1_arc 17 = .ok (.ireturn, 1) := by decide +kernel
theorem dX1_arc_18 : decode cX1_arc 18 = .ok (.iload_n 3, 1) := by decide +kernel
theorem dX1_arc_19 : decode cX1_arc 19 = .ok (.ifCond .lt 11, 3) := by decide +kernel
theorem dX1_arc_22 : decode cX1_arc 22 = .ok (.iload_n 3, 1) := by decide +kernel
theorem dX1_arc_23 : decode cX1_arc 23 = .ok (.aload_n 0, 1) := by decide +kernel
theorem dX1_arc_24 : decode cX1_arc 24 = .ok (.getfield 25, 3) := by decide +kernel
theorem dX1_arc_27 : decode cX1_arc 27 = .ok (.if_icmp .le 6, 3) := by decide +kernel
theorem dX1_arc_30 : decode cX1_arc 30 = .ok (.bipush (-2), 2) := by decide +kernel
theorem dX1_arc_32 : decode cX1_arc 32 = .ok (.ireturn, 1) := by decide +kernel
theorem dX1_arc_33 : decode cX1_arc 33 = .ok (.aload_n 0, 1) := by decide +kernel
theorem dX1_arc_34 : decode cX1_arc 34 = .ok (.getfield 96, 3) := by decide +kernel
theorem dX1_arc_37 : decode cX1_arc 37 = .ok (.aload_n 0, 1) := by decide +kernel
theorem dX1_arc_38 : decode cX1_arc 38 = .ok (.getfield 22, 3) := by decide +kernel
theorem dX1_arc_41 : decode cX1_arc 41 = .ok (.if_icmp .lt 6, 3) := by decide +kernel
theorem dX1_arc_44 : decode cX1_arc 44 = .ok (.bipush (-3), 2) := by decide +kernel
theorem dX1_arc_46 : decode cX1_arc 46 = .ok (.ireturn, 1) := by decide +kernel
theorem dX1_arc_47 : decode cX1_arc 47 = .ok (.aload_n 0, 1) := by decide +kernel
theorem dX1_arc_48 : decode cX1_arc 48 = .ok (.getfield 40, 3) := by decide +kernel
theorem dX1_arc_51 : decode cX1_arc 51 = .ok (.iload_n 1, 1) := by decide +kernel
theorem dX1_arc_52 : decode cX1_arc 52 = .ok (.new 38, 3) := by decide +kernel
theorem dX1_arc_55 : decode cX1_arc 55 = .ok (.dup, 1) := by decide +kernel
theorem dX1_arc_56 : decode cX1_arc 56 = .ok (.iload_n 2, 1) := by decide +kernel
theorem dX1_arc_57 : decode cX1_arc 57 = .ok (.iload_n 3, 1) := by decide +kernel
theorem dX1_arc_58 : decode cX1_arc 58 = .ok (.aload_n 0, 1) := by decide +kernel
theorem dX1_arc_59 : decode cX1_arc 59 = .ok (.getfield 40, 3) := by decide +kernel
theorem dX1_arc_62 : decode cX1_arc 62 = .ok (.iload_n 1, 1) := by decide +kernel
theorem dX1_arc_63 : decode cX1_arc 63 = .ok (.aaload, 1) := by decide +kernel
theorem dX1_arc_64 : decode cX1_arc 64 = .ok (.invokespecial 99, 3) := by decide +kernel
theorem dX1_arc_67 : decode cX1_arc 67 = .ok (.aastore, 1) := by decide +kernel
theorem dX1_arc_68 : decode cX1_arc 68 = .ok (.aload_n 0, 1) := by decide +kernel
theorem dX1_arc_69 : decode cX1_arc 69 = .ok (.dup, 1) := by decide +kernel
theorem dX1_arc_70 : decode cX1_arc 70 = .ok (.getfield 96, 3) := by decide +kernel
theorem dX1_arc_73 : decode cX1_arc 73 = .ok (.iconst 1, 1) := by decide +kernel
theorem dX1_arc_74 : decode cX1_arc 74 = .ok (.iadd, 1) := by decide +kernel
theorem dX1_arc_75 : decode cX1_arc 75 = .ok (.putfield 96, 3) := by decide +kernel
theorem dX1_arc_78 : decode cX1_arc 78 = .ok (.aload_n 0, 1) := by decide +kernel
theorem dX1_arc_79 : decode cX1_arc 79 = .ok (.invokevirtual 102, 3) := by decide +kernel
theorem dX1_arc_82 : decode cX1_arc 82 = .ok (.iconst 0, 1) := by decide +kernel
theorem dX1_arc_83 : decode cX1_arc 83 = .ok (.ireturn, 1) := by decide +kernel
theorem dX1_run_0 : decode cX1_run 0 = .ok (.aload_n 0, 1) := by decide +kernel
theorem dX1_run_1 : decode cX1_run 1 = .ok (.iload_n 1, 1) := by decide +kernel
theorem dX1_run_2 : decode cX1_run 2 = .ok (.invokevirtual 56, 3) := by decide +kernel
theorem dX1_run_5 : decode cX1_run 5 = .ok (.ifCond .ne 5, 3) := by decide +kernel
theorem dX1_run_8 : decode cX1_run 8 = .ok (.iconst (-1), 1) := by decide +kernel
theorem dX1_run_9 : decode cX1_run 9 = .ok (.ireturn, 1) := by decide +kernel
theorem dX1_run_10 : decode cX1_run 10 = .ok (.aload_n 0, 1) := by decide +kernel
theorem dX1_run_11 : decode cX1_run 11 = .ok (.invokevirtual 105, 3) := by decide +kernel
theorem dX1_run_14 : decode cX1_run 14 = .ok (.aload_n 0, 1) := by decide +kernel
theorem dX1_run_15 : decode cX1_run 15 = .ok (.invokevirtual 102, 3) := by decide +kernel
theorem dX1_run_18 : decode cX1_run 18 = .ok (.aload_n 0, 1) := by decide +kernel
theorem dX1_run_19 : decode cX1_run 19 = .ok (.iload_n 1, 1) := by decide +kernel
theorem dX1_run_20 : decode cX1_run 20 = .ok (.iconst 0, 1) := by decide +kernel
theorem dX1_run_21 : decode cX1_run 21 = .ok (.invokevirtual 108, 3) := by decide +kernel
theorem dX1_run_24 : decode cX1_run 24 = .ok (.pop, 1) := by decide +kernel
theorem dX1_run_25 : decode cX1_run 25 = .ok (.iconst 0, 1) := by decide +kernel
theorem dX1_run_26 : decode cX1_run 26 = .ok (.istore_n 2, 1) := by decide +kernel
theorem dX1_run_27 : decode cX1_run 27 = .ok (.iload_n 2, 1) := by decide +kernel
theorem dX1_run_28 : decode cX1_run 28 = .ok (.aload_n 0, 1) := by decide +kernel
theorem dX1_run_29 : decode cX1_run 29 = .ok (.getfield 18, 3) := by decide +kernel
theorem dX1_run_32 : decode cX1_run 32 = .ok (.if_icmp .ge 20, 3) := by decide +kernel
theorem dX1_run_35 : decode cX1_run 35 = .ok (.aload_n 0, 1) := by decide +kernel
theorem dX1_run_36 : decode cX1_run 36 = .ok (.getfield 66, 3) := by decide +kernel
theorem dX1_run_39 : decode cX1_run 39 = .ok (.ifCond .le 13, 3) := by decide +kernel
theorem dX1_run_42 : decode cX1_run 42 = .ok (.aload_n 0, 1) := by decide +kernel
theorem dX1_run_43 : decode cX1_run 43 = .ok (.invokevirtual 111, 3) := by decide +kernel
theorem dX1_run_46 : decode cX1_run 46 = .ok (.iinc 2 1, 3) := by decide +kernel
theorem dX1_run_49 : decode cX1_run 49 = .ok (.goto (-22), 3) := by decide +kernel
theorem dX1_run_52 : decode cX1_run 52 = .ok (.aload_n 0, 1) := by decide +kernel
theorem dX1_run_53 : decode cX1_run 53 = .ok (.invokevirtual 114, 3) := by decide +kernel
theorem dX1_run_56 : decode cX1_run 56 = .ok (.ifCond .eq 10, 3) := by decide +kernel
theorem dX1_run_59 : decode cX1_run 59 = .ok (.aload_n 0, 1) := by decide +kernel
theorem dX1_run_60 : decode cX1_run 60 = .ok (.invokevirtual 102, 3) := by decide +kernel
theorem dX1_run_63 : decode cX1_run 63 = .ok (.bipush (-2), 2) := by decide +kernel
theorem dX1_run_65 : decode cX1_run 65 = .ok (.ireturn, 1) := by decide +kernel
theorem dX1_run_66 : decode cX1_run 66 = .ok (.iconst 0, 1) := by decide +kernel
theorem dX1_run_67 : decode cX1_run 67 = .ok (.ireturn, 1) := by decide +kernel
theorem dX1_distance_0 : decode cX1_distance 0 = .ok (.aload_n 0, 1) := by decide +kernel
theorem dX1_distance_1 : decode cX1_distance 1 = .ok (.iload_n 1, 1) := by decide +kernel
theorem dX1_distance_2 : decode cX1_distance 2 = .ok (.invokevirtual 56, 3) := by decide +kernel
theorem dX1_distance_5 : decode cX1_distance 5 = .ok (.ifCond .eq 12, 3) := by decide +kernel
theorem dX1_distance_8 : decode cX1_distance 8 = .ok (.aload_n 0, 1) := by decide +kernel
theorem dX1_distance_9 : decode cX1_distance 9 = .ok (.getfield 44, 3) := by decide +kernel
theorem dX1_distance_12 : decode cX1_distance 12 = .ok (.iload_n 1, 1) := by decide +kernel
theorem dX1_distance_13 : decode cX1_distance 13 = .ok (.iaload, 1) := by decide +kernel
theorem dX1_distance_14 : decode cX1_distance 14 = .ok (.goto 4, 3) := by decide +kernel
theorem dX1_distance_17 : decode cX1_distance 17 = .ok (.iconst (-1), 1) := by decide +kernel
theorem dX1_distance_18 : decode cX1_distance 18 = .ok (.ireturn, 1) := by decide +kernel
theorem dX1_before_0 : decode cX1_before 0 = .ok (.aload_n 0, 1) := by decide +kernel
theorem dX1_before_1 : decode cX1_before 1 = .ok (.iload_n 1, 1) := by decide +kernel
theorem dX1_before_2 : decode cX1_before 2 = .ok (.invokevirtual 56, 3) := by decide +kernel
theorem dX1_before_5 : decode cX1_before 5 = .ok (.ifCond .eq 12, 3) := by decide +kernel
theorem dX1_before_8 : decode cX1_before 8 = .ok (.aload_n 0, 1) := by decide +kernel
theorem dX1_before_9 : decode cX1_before 9 = .ok (.getfield 47, 3) := by decide +kernel
theorem dX1_before_12 : decode cX1_before 12 = .ok (.iload_n 1, 1) := by decide +kernel
theorem dX1_before_13 : decode cX1_before 13 = .ok (.iaload, 1) := by decide +kernel
theorem dX1_before_14 : decode cX1_before 14 = .ok (.goto 4, 3) := by decide +kernel
theorem dX1_before_17 : decode cX1_before 17 = .ok (.iconst (-1), 1) := by decide +kernel
theorem dX1_before_18 : decode cX1_before 18 = .ok (.ireturn, 1) := by decide +kernel
theorem dX1_sound_0 : decode cX1_sound 0 = .ok (.iconst 0, 1) := by decide +kernel
theorem dX1_sound_1 : decode cX1_sound 1 = .ok (.istore_n 1, 1) := by decide +kernel
theorem dX1_sound_2 : decode cX1_sound 2 = .ok (.iload_n 1, 1) := by decide +kernel
theorem dX1_sound_3 : decode cX1_sound 3 = .ok (.aload_n 0, 1) := by decide +kernel
theorem dX1_sound_4 : decode cX1_sound 4 = .ok (.getfield 18, 3) := by decide +kernel
theorem dX1_sound_7 : decode cX1_sound 7 = .ok (.if_icmp .ge 27, 3) := by decide +kernel
theorem dX1_sound_10 : decode cX1_sound 10 = .ok (.aload_n 0, 1) := by decide +kernel
theorem dX1_sound_11 : decode cX1_sound 11 = .ok (.iload_n 1, 1) := by decide +kernel
theorem dX1_sound_12 : decode cX1_sound 12 = .ok (.invokevirtual 60, 3) := by decide +kernel
theorem dX1_sound_15 : decode cX1_sound 15 = .ok (.ifCond .eq 13, 3) := by decide +kernel
theorem dX1_sound_18 : decode cX1_sound 18 = .ok (.aload_n 0, 1) := by decide +kernel
theorem dX1_sound_19 : decode cX1_sound 19 = .ok (.iload_n 1, 1) := by decide +kernel
theorem dX1_sound_20 : decode cX1_sound 20 = .ok (.invokevirtual 118, 3) := by decide +kernel
theorem dX1_sound_23 : decode cX1_sound 23 = .ok (.ifCond .ne 5, 3) := by decide +kernel
theorem dX1_sound_26 : decode cX1_sound 26 = .ok (.iconst 0, 1) := by decide +kernel
theorem dX1_sound_27 : decode cX1_sound 27 = .ok (.ireturn, 1) := by decide +kernel
theorem dX1_sound_28 : decode cX1_sound 28 = .ok (.iinc 1 1, 3) := by decide +kernel
theorem dX1_sound_31 : decode cX1_sound 31 = .ok (.goto (-29), 3) := by decide +kernel
theorem dX1_sound_34 : decode cX1_sound 34 = .ok (.aload_n 0, 1) := by decide +kernel
theorem dX1_sound_35 : decode cX1_sound 35 = .ok (.getfield 93, 3) := by decide +kernel
theorem dX1_sound_38 : decode cX1_sound 38 = .ok (.i2l, 1) := by decide +kernel
theorem dX1_sound_39 : decode cX1_sound 39 = .ok (.ldc2_w 121, 3) := by decide +kernel
theorem dX1_sound_42 : decode cX1_sound 42 = .ok (.aload_n 0, 1) := by decide +kernel
theorem dX1_sound_43 : decode cX1_sound 43 = .ok (.getfield 69, 3) := by decide +kernel
theorem dX1_sound_46 : decode cX1_sound 46 = .ok (.i2l, 1) := by decide +kernel
theorem dX1_sound_47 : decode cX1_sound 47 = .ok (.lmul, 1) := by decide +kernel
theorem dX1_sound_48 : decode cX1_sound 48 = .ok (.lcmp, 1) := by decide +kernel
theorem dX1_sound_49 : decode cX1_sound 49 = .ok (.ifCond .gt 7, 3) := by decide +kernel
theorem dX1_sound_52 : decode cX1_sound 52 = .ok (.iconst 1, 1) := by decide +kernel
theorem dX1_sound_53 : decode cX1_sound 53 = .ok (.goto 4, 3) := by decide +kernel
theorem dX1_sound_56 : decode cX1_sound 56 = .ok (.iconst 0, 1) := by decide +kernel
theorem dX1_sound_57 : decode cX1_sound 57 = .ok (.ireturn, 1) := by decide +kernel
theorem dX1_count_0 : decode cX1_count 0 = .ok (.iload_n 1, 1) := by decide +kernel
theorem dX1_count_1 : decode cX1_count 1 = .ok (.tableswitch 42 0 2 #[27, 32, 37], 27) := by decide +kernel
theorem dX1_count_28 : decode cX1_count 28 = .ok (.aload_n 0, 1) := by decide +kernel
theorem dX1_count_29 : decode cX1_count 29 = .ok (.getfield 18, 3) := by decide +kernel
theorem dX1_count_32 : decode cX1_count 32 = .ok (.ireturn, 1) := by decide +kernel
theorem dX1_count_33 : decode cX1_count 33 = .ok (.aload_n 0, 1) := by decide +kernel
theorem dX1_count_34 : decode cX1_count 34 = .ok (.getfield 96, 3) := by decide +kernel
theorem dX1_count_37 : decode cX1_count 37 = .ok (.ireturn, 1) := by decide +kernel
theorem dX1_count_38 : decode cX1_count 38 = .ok (.aload_n 0, 1) := by decide +kernel
theorem dX1_count_39 : decode cX1_count 39 = .ok (.getfield 69, 3) := by decide +kernel
theorem dX1_count_42 : decode cX1_count 42 = .ok (.ireturn, 1) := by decide +kernel
theorem dX1_count_43 : decode cX1_count 43 = .ok (.iconst (-1), 1) := by decide +kernel
theorem dX1_count_44 : decode cX1_count 44 = .ok (.ireturn, 1) := by decide +kernel
theorem dX1_isItem_0 : decode cX1_isItem 0 = .ok (.iload_n 1, 1) := by decide +kernel
theorem dX1_isItem_1 : decode cX1_isItem 1 = .ok (.ifCond .lt 15, 3) := by decide +kernel
theorem dX1_isItem_4 : decode cX1_isItem 4 = .ok (.iload_n 1, 1) := by decide +kernel
theorem dX1_isItem_5 : decode cX1_isItem 5 = .ok (.aload_n 0, 1) := by decide +kernel
theorem dX1_isItem_6 : decode cX1_isItem 6 = .ok (.getfield 18, 3) := by decide +kernel
theorem dX1_isItem_9 : decode cX1_isItem 9 = .ok (.if_icmp .ge 7, 3) := by decide +kernel
theorem dX1_isItem_12 : decode cX1_isItem 12 = .ok (.iconst 1, 1) := by decide +kernel
theorem dX1_isItem_13 : decode cX1_isItem 13 = .ok (.goto 4, 3) := by decide +kernel
theorem dX1_isItem_16 : decode cX1_isItem 16 = .ok (.iconst 0, 1) := by decide +kernel
theorem dX1_isItem_17 : decode cX1_isItem 17 = .ok (.ireturn, 1) := by decide +kernel
theorem dX1_isThere_0 : decode cX1_isThere 0 = .ok (.aload_n 0, 1) := by decide +kernel
theorem dX1_isThere_1 : decode cX1_isThere 1 = .ok (.iload_n 1, 1) := by decide +kernel
theorem dX1_isThere_2 : decode cX1_isThere 2 = .ok (.invokevirtual 56, 3) := by decide +kernel
theorem dX1_isThere_5 : decode cX1_isThere 5 = .ok (.ifCond .eq 17, 3) := by decide +kernel
theorem dX1_isThere_8 : decode cX1_isThere 8 = .ok (.aload_n 0, 1) := by decide +kernel
theorem dX1_isThere_9 : decode cX1_isThere 9 = .ok (.getfield 32, 3) := by decide +kernel
theorem dX1_isThere_12 : decode cX1_isThere 12 = .ok (.iload_n 1, 1) := by decide +kernel
theorem dX1_isThere_13 : decode cX1_isThere 13 = .ok (.iaload, 1) := by decide +kernel
theorem dX1_isThere_14 : decode cX1_isThere 14 = .ok (.iconst (-1), 1) := by decide +kernel
theorem dX1_isThere_15 : decode cX1_isThere 15 = .ok (.if_icmp .eq 7, 3) := by decide +kernel
theorem dX1_isThere_18 : decode cX1_isThere 18 = .ok (.iconst 1, 1) := by decide +kernel
theorem dX1_isThere_19 : decode cX1_isThere 19 = .ok (.goto 4, 3) := by decide +kernel
theorem dX1_isThere_22 : decode cX1_isThere 22 = .ok (.iconst 0, 1) := by decide +kernel
theorem dX1_isThere_23 : decode cX1_isThere 23 = .ok (.ireturn, 1) := by decide +kernel
theorem dX1_isWhereItBelongs_0 : decode cX1_isWhereItBelongs 0 = .ok (.aload_n 0, 1) := by decide +kernel
theorem dX1_isWhereItBelongs_1 : decode cX1_isWhereItBelongs 1 = .ok (.getfield 28, 3) := by decide +kernel
theorem dX1_isWhereItBelongs_4 : decode cX1_isWhereItBelongs 4 = .ok (.iload_n 1, 1) := by decide +kernel
theorem dX1_isWhereItBelongs_5 : decode cX1_isWhereItBelongs 5 = .ok (.iaload, 1) := by decide +kernel
theorem dX1_isWhereItBelongs_6 : decode cX1_isWhereItBelongs 6 = .ok (.aload_n 0, 1) := by decide +kernel
theorem dX1_isWhereItBelongs_7 : decode cX1_isWhereItBelongs 7 = .ok (.getfield 63, 3) := by decide +kernel
theorem dX1_isWhereItBelongs_10 : decode cX1_isWhereItBelongs 10 = .ok (.if_icmp .lt 26, 3) := by decide +kernel
theorem dX1_isWhereItBelongs_13 : decode cX1_isWhereItBelongs 13 = .ok (.aload_n 0, 1) := by decide +kernel
theorem dX1_isWhereItBelongs_14 : decode cX1_isWhereItBelongs 14 = .ok (.getfield 32, 3) := by decide +kernel
theorem dX1_isWhereItBelongs_17 : decode cX1_isWhereItBelongs 17 = .ok (.iload_n 1, 1) := by decide +kernel
theorem dX1_isWhereItBelongs_18 : decode cX1_isWhereItBelongs 18 = .ok (.iaload, 1) := by decide +kernel
theorem dX1_isWhereItBelongs_19 : decode cX1_isWhereItBelongs 19 = .ok (.aload_n 0, 1) := by decide +kernel
theorem dX1_isWhereItBelongs_20 : decode cX1_isWhereItBelongs 20 = .ok (.aload_n 0, 1) := by decide +kernel
theorem dX1_isWhereItBelongs_21 : decode cX1_isWhereItBelongs 21 = .ok (.getfield 28, 3) := by decide +kernel
theorem dX1_isWhereItBelongs_24 : decode cX1_isWhereItBelongs 24 = .ok (.iload_n 1, 1) := by decide +kernel
theorem dX1_isWhereItBelongs_25 : decode cX1_isWhereItBelongs 25 = .ok (.iaload, 1) := by decide +kernel
theorem dX1_isWhereItBelongs_26 : decode cX1_isWhereItBelongs 26 = .ok (.invokevirtual 76, 3) := by decide +kernel
theorem dX1_isWhereItBelongs_29 : decode cX1_isWhereItBelongs 29 = .ok (.if_icmp .ne 7, 3) := by decide +kernel
theorem dX1_isWhereItBelongs_32 : decode cX1_isWhereItBelongs 32 = .ok (.iconst 1, 1) := by decide +kernel
theorem dX1_isWhereItBelongs_33 : decode cX1_isWhereItBelongs 33 = .ok (.goto 4, 3) := by decide +kernel
theorem dX1_isWhereItBelongs_36 : decode cX1_isWhereItBelongs 36 = .ok (.iconst 0, 1) := by decide +kernel
theorem dX1_isWhereItBelongs_37 : decode cX1_isWhereItBelongs 37 = .ok (.ireturn, 1) := by decide +kernel
theorem dX1_bucketFor_0 : decode cX1_bucketFor 0 = .ok (.bipush 32, 2) := by decide +kernel
theorem dX1_bucketFor_2 : decode cX1_bucketFor 2 = .ok (.iload_n 1, 1) := by decide +kernel
theorem dX1_bucketFor_3 : decode cX1_bucketFor 3 = .ok (.aload_n 0, 1) := by decide +kernel
theorem dX1_bucketFor_4 : decode cX1_bucketFor 4 = .ok (.getfield 63, 3) := by decide +kernel
theorem dX1_bucketFor_7 : decode cX1_bucketFor 7 = .ok (.ixor, 1) := by decide +kernel
theorem dX1_bucketFor_8 : decode cX1_bucketFor 8 = .ok (.invokestatic 123, 3) := by decide +kernel
theorem dX1_bucketFor_11 : decode cX1_bucketFor 11 = .ok (.isub, 1) := by decide +kernel
theorem dX1_bucketFor_12 : decode cX1_bucketFor 12 = .ok (.ireturn, 1) := by decide +kernel
theorem dX1_putIntoBucket_0 : decode cX1_putIntoBucket 0 = .ok (.aload_n 0, 1) := by decide +kernel
theorem dX1_putIntoBucket_1 : decode cX1_putIntoBucket 1 = .ok (.iload_n 1, 1) := by decide +kernel
theorem dX1_putIntoBucket_2 : decode cX1_putIntoBucket 2 = .ok (.invokevirtual 128, 3) := by decide +kernel
theorem dX1_putIntoBucket_5 : decode cX1_putIntoBucket 5 = .ok (.aload_n 0, 1) := by decide +kernel
theorem dX1_putIntoBucket_6 : decode cX1_putIntoBucket 6 = .ok (.aload_n 0, 1) := by decide +kernel
theorem dX1_putIntoBucket_7 : decode cX1_putIntoBucket 7 = .ok (.getfield 28, 3) := by decide +kernel
theorem dX1_putIntoBucket_10 : decode cX1_putIntoBucket 10 = .ok (.iload_n 1, 1) := by decide +kernel
theorem dX1_putIntoBucket_11 : decode cX1_putIntoBucket 11 = .ok (.iaload, 1) := by decide +kernel
theorem dX1_putIntoBucket_12 : decode cX1_putIntoBucket 12 = .ok (.invokevirtual 76, 3) := by decide +kernel
theorem dX1_putIntoBucket_15 : decode cX1_putIntoBucket 15 = .ok (.istore_n 2, 1) := by decide +kernel
theorem dX1_putIntoBucket_16 : decode cX1_putIntoBucket 16 = .ok (.aload_n 0, 1) := by decide +kernel
theorem dX1_putIntoBucket_17 : decode cX1_putIntoBucket 17 = .ok (.getfield 32, 3) := by decide +kernel
theorem dX1_putIntoBucket_20 : decode cX1_putIntoBucket 20 = .ok (.iload_n 1, 1) := by decide +kernel
theorem dX1_putIntoBucket_21 : decode cX1_putIntoBucket 21 = .ok (.iload_n 2, 1) := by decide +kernel
theorem dX1_putIntoBucket_22 : decode cX1_putIntoBucket 22 = .ok (.iastore, 1) := by decide +kernel
theorem dX1_putIntoBucket_23 : decode cX1_putIntoBucket 23 = .ok (.aload_n 0, 1) := by decide +kernel
theorem dX1_putIntoBucket_24 : decode cX1_putIntoBucket 24 = .ok (.getfield 35, 3) := by decide +kernel
theorem dX1_putIntoBucket_27 : decode cX1_putIntoBucket 27 = .ok (.iload_n 2, 1) := by decide +kernel
theorem dX1_putIntoBucket_28 : decode cX1_putIntoBucket 28 = .ok (.dup2, 1) := by decide +kernel
theorem dX1_putIntoBucket_29 : decode cX1_putIntoBucket 29 = .ok (.iaload, 1) := by decide +kernel
theorem dX1_putIntoBucket_30 : decode cX1_putIntoBucket 30 = .ok (.iconst 1, 1) := by decide +kernel
theorem dX1_putIntoBucket_31 : decode cX1_putIntoBucket 31 = .ok (.iadd, 1) := by decide +kernel
theorem dX1_putIntoBucket_32 : decode cX1_putIntoBucket 32 = .ok (.iastore, 1) := by decide +kernel
theorem dX1_putIntoBucket_33 : decode cX1_putIntoBucket 33 = .ok (.aload_n 0, 1) := by decide +kernel
theorem dX1_putIntoBucket_34 : decode cX1_putIntoBucket 34 = .ok (.dup, 1) := by decide +kernel
theorem dX1_putIntoBucket_35 : decode cX1_putIntoBucket 35 = .ok (.getfield 93, 3) := by decide +kernel
theorem dX1_putIntoBucket_38 : decode cX1_putIntoBucket 38 = .ok (.iconst 1, 1) := by decide +kernel
theorem dX1_putIntoBucket_39 : decode cX1_putIntoBucket 39 = .ok (.iadd, 1) := by decide +kernel
theorem dX1_putIntoBucket_40 : decode cX1_putIntoBucket 40 = .ok (.putfield 93, 3) := by decide +kernel
theorem dX1_putIntoBucket_43 : decode cX1_putIntoBucket 43 = .ok (.return_, 1) := by decide +kernel
theorem dX1_leaveBucket_0 : decode cX1_leaveBucket 0 = .ok (.aload_n 0, 1) := by decide +kernel
theorem dX1_leaveBucket_1 : decode cX1_leaveBucket 1 = .ok (.getfield 32, 3) := by decide +kernel
theorem dX1_leaveBucket_4 : decode cX1_leaveBucket 4 = .ok (.iload_n 1, 1) := by decide +kernel
theorem dX1_leaveBucket_5 : decode cX1_leaveBucket 5 = .ok (.iaload, 1) := by decide +kernel
theorem dX1_leaveBucket_6 : decode cX1_leaveBucket 6 = .ok (.istore_n 2, 1) := by decide +kernel
theorem dX1_leaveBucket_7 : decode cX1_leaveBucket 7 = .ok (.iload_n 2, 1) := by decide +kernel
theorem dX1_leaveBucket_8 : decode cX1_leaveBucket 8 = .ok (.iconst (-1), 1) := by decide +kernel
theorem dX1_leaveBucket_9 : decode cX1_leaveBucket 9 = .ok (.if_icmp .eq 20, 3) := by decide +kernel
theorem dX1_leaveBucket_12 : decode cX1_leaveBucket 12 = .ok (.aload_n 0, 1) := by decide +kernel
theorem dX1_leaveBucket_13 : decode cX1_leaveBucket 13 = .ok (.getfield 35, 3) := by decide +kernel
theorem dX1_leaveBucket_16 : decode cX1_leaveBucket 16 = .ok (.iload_n 2, 1) := by decide +kernel
theorem dX1_leaveBucket_17 : decode cX1_leaveBucket 17 = .ok (.dup2, 1) := by decide +kernel
theorem dX1_leaveBucket_18 : decode cX1_leaveBucket 18 = .ok (.iaload, 1) := by decide +kernel
theorem dX1_leaveBucket_19 : decode cX1_leaveBucket 19 = .ok (.iconst 1, 1) := by decide +kernel
theorem dX1_leaveBucket_20 : decode cX1_leaveBucket 20 = .ok (.isub, 1) := by decide +kernel
theorem dX1_leaveBucket_21 : decode cX1_leaveBucket 21 = .ok (.iastore, 1) := by decide +kernel
theorem dX1_leaveBucket_22 : decode cX1_leaveBucket 22 = .ok (.aload_n 0, 1) := by decide +kernel
theorem dX1_leaveBucket_23 : decode cX1_leaveBucket 23 = .ok (.getfield 32, 3) := by decide +kernel
theorem dX1_leaveBucket_26 : decode cX1_leaveBucket 26 = .ok (.iload_n 1, 1) := by decide +kernel
theorem dX1_leaveBucket_27 : decode cX1_leaveBucket 27 = .ok (.iconst (-1), 1) := by decide +kernel
theorem dX1_leaveBucket_28 : decode cX1_leaveBucket 28 = .ok (.iastore, 1) := by decide +kernel
theorem dX1_leaveBucket_29 : decode cX1_leaveBucket 29 = .ok (.return_, 1) := by decide +kernel
theorem dX1_takeOut_0 : decode cX1_takeOut 0 = .ok (.aload_n 0, 1) := by decide +kernel
theorem dX1_takeOut_1 : decode cX1_takeOut 1 = .ok (.iload_n 1, 1) := by decide +kernel
theorem dX1_takeOut_2 : decode cX1_takeOut 2 = .ok (.invokevirtual 128, 3) := by decide +kernel
theorem dX1_takeOut_5 : decode cX1_takeOut 5 = .ok (.aload_n 0, 1) := by decide +kernel
theorem dX1_takeOut_6 : decode cX1_takeOut 6 = .ok (.dup, 1) := by decide +kernel
theorem dX1_takeOut_7 : decode cX1_takeOut 7 = .ok (.getfield 66, 3) := by decide +kernel
theorem dX1_takeOut_10 : decode cX1_takeOut 10 = .ok (.iconst 1, 1) := by decide +kernel
theorem dX1_takeOut_11 : decode cX1_takeOut 11 = .ok (.isub, 1) := by decide +kernel
theorem dX1_takeOut_12 : decode cX1_takeOut 12 = .ok (.putfield 66, 3) := by decide +kernel
theorem dX1_takeOut_15 : decode cX1_takeOut 15 = .ok (.return_, 1) := by decide +kernel
theorem dX1_lowestBucket_0 : decode cX1_lowestBucket 0 = .ok (.iconst 0, 1) := by decide +kernel
theorem dX1_lowestBucket_1 : decode cX1_lowestBucket 1 = .ok (.istore_n 1, 1) := by decide +kernel
theorem dX1_lowestBucket_2 : decode cX1_lowestBucket 2 = .ok (.iload_n 1, 1) := by decide +kernel
theorem dX1_lowestBucket_3 : decode cX1_lowestBucket 3 = .ok (.bipush 32, 2) := by decide +kernel
theorem dX1_lowestBucket_5 : decode cX1_lowestBucket 5 = .ok (.if_icmp .ge 20, 3) := by decide +kernel
theorem dX1_lowestBucket_8 : decode cX1_lowestBucket 8 = .ok (.aload_n 0, 1) := by decide +kernel
theorem dX1_lowestBucket_9 : decode cX1_lowestBucket 9 = .ok (.getfield 35, 3) := by decide +kernel
theorem dX1_lowestBucket_12 : decode cX1_lowestBucket 12 = .ok (.iload_n 1, 1) := by decide +kernel
theorem dX1_lowestBucket_13 : decode cX1_lowestBucket 13 = .ok (.iaload, 1) := by decide +kernel
theorem dX1_lowestBucket_14 : decode cX1_lowestBucket 14 = .ok (.ifCond .le 5, 3) := by decide +kernel
theorem dX1_lowestBucket_17 : decode cX1_lowestBucket 17 = .ok (.iload_n 1, 1) := by decide +kernel
theorem dX1_lowestBucket_18 : decode cX1_lowestBucket 18 = .ok (.ireturn, 1) := by decide +kernel
theorem dX1_lowestBucket_19 : decode cX1_lowestBucket 19 = .ok (.iinc 1 1, 3) := by decide +kernel
theorem dX1_lowestBucket_22 : decode cX1_lowestBucket 22 = .ok (.goto (-20), 3) := by decide +kernel
theorem dX1_lowestBucket_25 : decode cX1_lowestBucket 25 = .ok (.iconst (-1), 1) := by decide +kernel
theorem dX1_lowestBucket_26 : decode cX1_lowestBucket 26 = .ok (.ireturn, 1) := by decide +kernel
theorem dX1_leastItemIn_0 : decode cX1_leastItemIn 0 = .ok (.iconst (-1), 1) := by decide +kernel
theorem dX1_leastItemIn_1 : decode cX1_leastItemIn 1 = .ok (.istore_n 2, 1) := by decide +kernel
theorem dX1_leastItemIn_2 : decode cX1_leastItemIn 2 = .ok (.iconst 0, 1) := by decide +kernel
theorem dX1_leastItemIn_3 : decode cX1_leastItemIn 3 = .ok (.istore_n 3, 1) := by decide +kernel
theorem dX1_leastItemIn_4 : decode cX1_leastItemIn 4 = .ok (.iload_n 3, 1) := by decide +kernel
theorem dX1_leastItemIn_5 : decode cX1_leastItemIn 5 = .ok (.aload_n 0, 1) := by decide +kernel
theorem dX1_leastItemIn_6 : decode cX1_leastItemIn 6 = .ok (.getfield 18, 3) := by decide +kernel
theorem dX1_leastItemIn_9 : decode cX1_leastItemIn 9 = .ok (.if_icmp .ge 49, 3) := by decide +kernel
theorem dX1_leastItemIn_12 : decode cX1_leastItemIn 12 = .ok (.aload_n 0, 1) := by decide +kernel
theorem dX1_leastItemIn_13 : decode cX1_leastItemIn 13 = .ok (.iload_n 3, 1) := by decide +kernel
theorem dX1_leastItemIn_14 : decode cX1_leastItemIn 14 = .ok (.invokevirtual 60, 3) := by decide +kernel
theorem dX1_leastItemIn_17 : decode cX1_leastItemIn 17 = .ok (.ifCond .eq 35, 3) := by decide +kernel
theorem dX1_leastItemIn_20 : decode cX1_leastItemIn 20 = .ok (.aload_n 0, 1) := by decide +kernel
theorem dX1_leastItemIn_21 : decode cX1_leastItemIn 21 = .ok (.getfield 32, 3) := by decide +kernel
theorem dX1_leastItemIn_24 : decode cX1_leastItemIn 24 = .ok (.iload_n 3, 1) := by decide +kernel
theorem dX1_leastItemIn_25 : decode cX1_leastItemIn 25 = .ok (.iaload, 1) := by decide +kernel
theorem dX1_leastItemIn_26 : decode cX1_leastItemIn 26 = .ok (.iload_n 1, 1) := by decide +kernel
theorem dX1_leastItemIn_27 : decode cX1_leastItemIn 27 = .ok (.if_icmp .ne 25, 3) := by decide +kernel
theorem dX1_leastItemIn_30 : decode cX1_leastItemIn 30 = .ok (.iload_n 2, 1) := by decide +kernel
theorem dX1_leastItemIn_31 : decode cX1_leastItemIn 31 = .ok (.iconst (-1), 1) := by decide +kernel
theorem dX1_leastItemIn_32 : decode cX1_leastItemIn 32 = .ok (.if_icmp .eq 18, 3) := by decide +kernel
theorem dX1_leastItemIn_35 : decode cX1_leastItemIn 35 = .ok (.aload_n 0, 1) := by decide +kernel
theorem dX1_leastItemIn_36 : decode cX1_leastItemIn 36 = .ok (.getfield 28, 3) := by decide +kernel
theorem dX1_leastItemIn_39 : decode cX1_leastItemIn 39 = .ok (.iload_n 3, 1) := by decide +kernel
theorem dX1_leastItemIn_40 : decode cX1_leastItemIn 40 = .ok (.iaload, 1) := by decide +kernel
theorem dX1_leastItemIn_41 : decode cX1_leastItemIn 41 = .ok (.aload_n 0, 1) := by decide +kernel
theorem dX1_leastItemIn_42 : decode cX1_leastItemIn 42 = .ok (.getfield 28, 3) := by decide +kernel
theorem dX1_leastItemIn_45 : decode cX1_leastItemIn 45 = .ok (.iload_n 2, 1) := by decide +kernel
theorem dX1_leastItemIn_46 : decode cX1_leastItemIn 46 = .ok (.iaload, 1) := by decide +kernel
theorem dX1_leastItemIn_47 : decode cX1_leastItemIn 47 = .ok (.if_icmp .ge 5, 3) := by decide +kernel
theorem dX1_leastItemIn_50 : decode cX1_leastItemIn 50 = .ok (.iload_n 3, 1) := by decide +kernel
theorem dX1_leastItemIn_51 : decode cX1_leastItemIn 51 = .ok (.istore_n 2, 1) := by decide +kernel
theorem dX1_leastItemIn_52 : decode cX1_leastItemIn 52 = .ok (.iinc 3 1, 3) := by decide +kernel
theorem dX1_leastItemIn_55 : decode cX1_leastItemIn 55 = .ok (.goto (-51), 3) := by decide +kernel
theorem dX1_leastItemIn_58 : decode cX1_leastItemIn 58 = .ok (.iload_n 2, 1) := by decide +kernel
theorem dX1_leastItemIn_59 : decode cX1_leastItemIn 59 = .ok (.ireturn, 1) := by decide +kernel
theorem dX1_spread_0 : decode cX1_spread 0 = .ok (.iconst 0, 1) := by decide +kernel
theorem dX1_spread_1 : decode cX1_spread 1 = .ok (.istore_n 2, 1) := by decide +kernel
theorem dX1_spread_2 : decode cX1_spread 2 = .ok (.iload_n 2, 1) := by decide +kernel
theorem dX1_spread_3 : decode cX1_spread 3 = .ok (.aload_n 0, 1) := by decide +kernel
theorem dX1_spread_4 : decode cX1_spread 4 = .ok (.getfield 18, 3) := by decide +kernel
theorem dX1_spread_7 : decode cX1_spread 7 = .ok (.if_icmp .ge 24, 3) := by decide +kernel
theorem dX1_spread_10 : decode cX1_spread 10 = .ok (.aload_n 0, 1) := by decide +kernel
theorem dX1_spread_11 : decode cX1_spread 11 = .ok (.getfield 32, 3) := by decide +kernel
theorem dX1_spread_14 : decode cX1_spread 14 = .ok (.iload_n 2, 1) := by decide +kernel
theorem dX1_spread_15 : decode cX1_spread 15 = .ok (.iaload, 1) := by decide +kernel
theorem dX1_spread_16 : decode cX1_spread 16 = .ok (.iload_n 1, 1) := by decide +kernel
theorem dX1_spread_17 : decode cX1_spread 17 = .ok (.if_icmp .ne 8, 3) := by decide +kernel
theorem dX1_spread_20 : decode cX1_spread 20 = .ok (.aload_n 0, 1) := by decide +kernel
theorem dX1_spread_21 : decode cX1_spread 21 = .ok (.iload_n 2, 1) := by decide +kernel
theorem dX1_spread_22 : decode cX1_spread 22 = .ok (.invokevirtual 72, 3) := by decide +kernel
theorem dX1_spread_25 : decode cX1_spread 25 = .ok (.iinc 2 1, 3) := by decide +kernel
theorem dX1_spread_28 : decode cX1_spread 28 = .ok (.goto (-26), 3) := by decide +kernel
theorem dX1_spread_31 : decode cX1_spread 31 = .ok (.return_, 1) := by decide +kernel
theorem dX1_emptyQueue_0 : decode cX1_emptyQueue 0 = .ok (.aload_n 0, 1) := by decide +kernel
theorem dX1_emptyQueue_1 : decode cX1_emptyQueue 1 = .ok (.getfield 32, 3) := by decide +kernel
theorem dX1_emptyQueue_4 : decode cX1_emptyQueue 4 = .ok (.iconst (-1), 1) := by decide +kernel
theorem dX1_emptyQueue_5 : decode cX1_emptyQueue 5 = .ok (.invokestatic 50, 3) := by decide +kernel
theorem dX1_emptyQueue_8 : decode cX1_emptyQueue 8 = .ok (.aload_n 0, 1) := by decide +kernel
theorem dX1_emptyQueue_9 : decode cX1_emptyQueue 9 = .ok (.getfield 35, 3) := by decide +kernel
theorem dX1_emptyQueue_12 : decode cX1_emptyQueue 12 = .ok (.iconst 0, 1) := by decide +kernel
theorem dX1_emptyQueue_13 : decode cX1_emptyQueue 13 = .ok (.invokestatic 50, 3) := by decide +kernel
theorem dX1_emptyQueue_16 : decode cX1_emptyQueue 16 = .ok (.aload_n 0, 1) := by decide +kernel
theorem dX1_emptyQueue_17 : decode cX1_emptyQueue 17 = .ok (.iconst 0, 1) := by decide +kernel
theorem dX1_emptyQueue_18 : decode cX1_emptyQueue 18 = .ok (.putfield 66, 3) := by decide +kernel
theorem dX1_emptyQueue_21 : decode cX1_emptyQueue 21 = .ok (.aload_n 0, 1) := by decide +kernel
theorem dX1_emptyQueue_22 : decode cX1_emptyQueue 22 = .ok (.iconst 0, 1) := by decide +kernel
theorem dX1_emptyQueue_23 : decode cX1_emptyQueue 23 = .ok (.putfield 63, 3) := by decide +kernel
theorem dX1_emptyQueue_26 : decode cX1_emptyQueue 26 = .ok (.return_, 1) := by decide +kernel
theorem dX1_forgetWays_0 : decode cX1_forgetWays 0 = .ok (.aload_n 0, 1) := by decide +kernel
theorem dX1_forgetWays_1 : decode cX1_forgetWays 1 = .ok (.getfield 44, 3) := by decide +kernel
theorem dX1_forgetWays_4 : decode cX1_forgetWays 4 = .ok (.iconst (-1), 1) := by decide +kernel
theorem dX1_forgetWays_5 : decode cX1_forgetWays 5 = .ok (.invokestatic 50, 3) := by decide +kernel
theorem dX1_forgetWays_8 : decode cX1_forgetWays 8 = .ok (.aload_n 0, 1) := by decide +kernel
theorem dX1_forgetWays_9 : decode cX1_forgetWays 9 = .ok (.getfield 47, 3) := by decide +kernel
theorem dX1_forgetWays_12 : decode cX1_forgetWays 12 = .ok (.iconst (-1), 1) := by decide +kernel
theorem dX1_forgetWays_13 : decode cX1_forgetWays 13 = .ok (.invokestatic 50, 3) := by decide +kernel
theorem dX1_forgetWays_16 : decode cX1_forgetWays 16 = .ok (.return_, 1) := by decide +kernel
theorem dX1_takeNext_0 : decode cX1_takeNext 0 = .ok (.aload_n 0, 1) := by decide +kernel
theorem dX1_takeNext_1 : decode cX1_takeNext 1 = .ok (.invokevirtual 131, 3) := by decide +kernel
theorem dX1_takeNext_4 : decode cX1_takeNext 4 = .ok (.istore_n 1, 1) := by decide +kernel
theorem dX1_takeNext_5 : decode cX1_takeNext 5 = .ok (.aload_n 0, 1) := by decide +kernel
theorem dX1_takeNext_6 : decode cX1_takeNext 6 = .ok (.iload_n 1, 1) := by decide +kernel
theorem dX1_takeNext_7 : decode cX1_takeNext 7 = .ok (.invokevirtual 56, 3) := by decide +kernel
theorem dX1_takeNext_10 : decode cX1_takeNext 10 = .ok (.ifCond .ne 4, 3) := by decide +kernel
theorem dX1_takeNext_13 : decode cX1_takeNext 13 = .ok (.return_, 1) := by decide +kernel
theorem dX1_takeNext_14 : decode cX1_takeNext 14 = .ok (.aload_n 0, 1) := by decide +kernel
theorem dX1_takeNext_15 : decode cX1_takeNext 15 = .ok (.getfield 44, 3) := by decide +kernel
theorem dX1_takeNext_18 : decode cX1_takeNext 18 = .ok (.iload_n 1, 1) := by decide +kernel
theorem dX1_takeNext_19 : decode cX1_takeNext 19 = .ok (.aload_n 0, 1) := by decide +kernel
theorem dX1_takeNext_20 : decode cX1_takeNext 20 = .ok (.getfield 63, 3) := by decide +kernel
theorem dX1_takeNext_23 : decode cX1_takeNext 23 = .ok (.iastore, 1) := by decide +kernel
theorem dX1_takeNext_24 : decode cX1_takeNext 24 = .ok (.aload_n 0, 1) := by decide +kernel
theorem dX1_takeNext_25 : decode cX1_takeNext 25 = .ok (.getfield 40, 3) := by decide +kernel
theorem dX1_takeNext_28 : decode cX1_takeNext 28 = .ok (.iload_n 1, 1) := by decide +kernel
theorem dX1_takeNext_29 : decode cX1_takeNext 29 = .ok (.aaload, 1) := by decide +kernel
theorem dX1_takeNext_30 : decode cX1_takeNext 30 = .ok (.astore_n 2, 1) := by decide +kernel
theorem dX1_takeNext_31 : decode cX1_takeNext 31 = .ok (.aload_n 2, 1) := by decide +kernel
theorem dX1_takeNext_32 : decode cX1_takeNext 32 = .ok (.ifnull 17, 3) := by decide +kernel
theorem dX1_takeNext_35 : decode cX1_takeNext 35 = .ok (.aload_n 0, 1) := by decide +kernel
theorem dX1_takeNext_36 : decode cX1_takeNext 36 = .ok (.iload_n 1, 1) := by decide +kernel
theorem dX1_takeNext_37 : decode cX1_takeNext 37 = .ok (.aload_n 2, 1) := by decide +kernel
theorem dX1_takeNext_38 : decode cX1_takeNext 38 = .ok (.invokevirtual 134, 3) := by decide +kernel
theorem dX1_takeNext_41 : decode cX1_takeNext 41 = .ok (.aload_n 2, 1) := by decide +kernel
theorem dX1_takeNext_42 : decode cX1_takeNext 42 = .ok (.getfield 138, 3) := by decide +kernel
theorem dX1_takeNext_45 : decode cX1_takeNext 45 = .ok (.astore_n 2, 1) := by decide +kernel
theorem dX1_takeNext_46 : decode cX1_takeNext 46 = .ok (.goto (-15), 3) := by decide +kernel
theorem dX1_takeNext_49 : decode cX1_takeNext 49 = .ok (.return_, 1) := by decide +kernel
theorem dX1_tryWay_0 : decode cX1_tryWay 0 = .ok (.aload_n 2, 1) := by decide +kernel
theorem dX1_tryWay_1 : decode cX1_tryWay 1 = .ok (.getfield 142, 3) := by decide +kernel
theorem dX1_tryWay_4 : decode cX1_tryWay 4 = .ok (.istore_n 3, 1) := by decide +kernel
theorem dX1_tryWay_5 : decode cX1_tryWay 5 = .ok (.aload_n 0, 1) := by decide +kernel
theorem dX1_tryWay_6 : decode cX1_tryWay 6 = .ok (.getfield 44, 3) := by decide +kernel
theorem dX1_tryWay_9 : decode cX1_tryWay 9 = .ok (.iload_n 1, 1) := by decide +kernel
theorem dX1_tryWay_10 : decode cX1_tryWay 10 = .ok (.iaload, 1) := by decide +kernel
theorem dX1_tryWay_11 : decode cX1_tryWay 11 = .ok (.i2l, 1) := by decide +kernel
theorem dX1_tryWay_12 : decode cX1_tryWay 12 = .ok (.aload_n 2, 1) := by decide +kernel
theorem dX1_tryWay_13 : decode cX1_tryWay 13 = .ok (.getfield 145, 3) := by decide +kernel
theorem dX1_tryWay_16 : decode cX1_tryWay 16 = .ok (.i2l, 1) := by decide +kernel
theorem dX1_tryWay_17 : decode cX1_tryWay 17 = .ok (.ladd, 1) := by decide +kernel
theorem dX1_tryWay_18 : decode cX1_tryWay 18 = .ok (.lstore 4, 2) := by decide +kernel
theorem dX1_tryWay_20 : decode cX1_tryWay 20 = .ok (.aload_n 0, 1) := by decide +kernel
theorem dX1_tryWay_21 : decode cX1_tryWay 21 = .ok (.getfield 44, 3) := by decide +kernel
theorem dX1_tryWay_24 : decode cX1_tryWay 24 = .ok (.iload_n 3, 1) := by decide +kernel
theorem dX1_tryWay_25 : decode cX1_tryWay 25 = .ok (.iaload, 1) := by decide +kernel
theorem dX1_tryWay_26 : decode cX1_tryWay 26 = .ok (.iconst (-1), 1) := by decide +kernel
theorem dX1_tryWay_27 : decode cX1_tryWay 27 = .ok (.if_icmp .ne 12, 3) := by decide +kernel
theorem dX1_tryWay_30 : decode cX1_tryWay 30 = .ok (.lload 4, 2) := by decide +kernel
theorem dX1_tryWay_32 : decode cX1_tryWay 32 = .ok (.ldc2_w 148, 3) := by decide +kernel
theorem dX1_tryWay_35 : decode cX1_tryWay 35 = .ok (.lcmp, 1) := by decide +kernel
theorem dX1_tryWay_36 : decode cX1_tryWay 36 = .ok (.ifCond .le 4, 3) := by decide +kernel
theorem dX1_tryWay_39 : decode cX1_tryWay 39 = .ok (.return_, 1) := by decide +kernel
theorem dX1_tryWay_40 : decode cX1_tryWay 40 = .ok (.aload_n 0, 1) := by decide +kernel
theorem dX1_tryWay_41 : decode cX1_tryWay 41 = .ok (.iload_n 3, 1) := by decide +kernel
theorem dX1_tryWay_42 : decode cX1_tryWay 42 = .ok (.invokevirtual 60, 3) := by decide +kernel
theorem dX1_tryWay_45 : decode cX1_tryWay 45 = .ok (.ifCond .ne 22, 3) := by decide +kernel
theorem dX1_tryWay_48 : decode cX1_tryWay 48 = .ok (.aload_n 0, 1) := by decide +kernel
theorem dX1_tryWay_49 : decode cX1_tryWay 49 = .ok (.iload_n 3, 1) := by decide +kernel
theorem dX1_tryWay_50 : decode cX1_tryWay 50 = .ok (.lload 4, 2) := by decide +kernel
theorem dX1_tryWay_52 : decode cX1_tryWay 52 = .ok (.l2i, 1) := by decide +kernel
theorem dX1_tryWay_53 : decode cX1_tryWay 53 = .ok (.invokevirtual 108, 3) := by decide +kernel
theorem dX1_tryWay_56 : decode cX1_tryWay 56 = .ok (.pop, 1) := by decide +kernel
theorem dX1_tryWay_57 : decode cX1_tryWay 57 = .ok (.aload_n 0, 1) := by decide +kernel
theorem dX1_tryWay_58 : decode cX1_tryWay 58 = .ok (.getfield 47, 3) := by decide +kernel
theorem dX1_tryWay_61 : decode cX1_tryWay 61 = .ok (.iload_n 3, 1) := by decide +kernel
theorem dX1_tryWay_62 : decode cX1_tryWay 62 = .ok (.iload_n 1, 1) := by decide +kernel
theorem dX1_tryWay_63 : decode cX1_tryWay 63 = .ok (.iastore, 1) := by decide +kernel
theorem dX1_tryWay_64 : decode cX1_tryWay 64 = .ok (.goto 32, 3) := by decide +kernel
theorem dX1_tryWay_67 : decode cX1_tryWay 67 = .ok (.lload 4, 2) := by decide +kernel
theorem dX1_tryWay_69 : decode cX1_tryWay 69 = .ok (.aload_n 0, 1) := by decide +kernel
theorem dX1_tryWay_70 : decode cX1_tryWay 70 = .ok (.getfield 28, 3) := by decide +kernel
theorem dX1_tryWay_73 : decode cX1_tryWay 73 = .ok (.iload_n 3, 1) := by decide +kernel
theorem dX1_tryWay_74 : decode cX1_tryWay 74 = .ok (.iaload, 1) := by decide +kernel
theorem dX1_tryWay_75 : decode cX1_tryWay 75 = .ok (.i2l, 1) := by decide +kernel
theorem dX1_tryWay_76 : decode cX1_tryWay 76 = .ok (.lcmp, 1) := by decide +kernel
theorem dX1_tryWay_77 : decode cX1_tryWay 77 = .ok (.ifCond .ge 19, 3) := by decide +kernel
theorem dX1_tryWay_80 : decode cX1_tryWay 80 = .ok (.aload_n 0, 1) := by decide +kernel
theorem dX1_tryWay_81 : decode cX1_tryWay 81 = .ok (.iload_n 3, 1) := by decide +kernel
theorem dX1_tryWay_82 : decode cX1_tryWay 82 = .ok (.lload 4, 2) := by decide +kernel
theorem dX1_tryWay_84 : decode cX1_tryWay 84 = .ok (.l2i, 1) := by decide +kernel
theorem dX1_tryWay_85 : decode cX1_tryWay 85 = .ok (.invokevirtual 150, 3) := by decide +kernel
theorem dX1_tryWay_88 : decode cX1_tryWay 88 = .ok (.pop, 1) := by decide +kernel
theorem dX1_tryWay_89 : decode cX1_tryWay 89 = .ok (.aload_n 0, 1) := by decide +kernel
theorem dX1_tryWay_90 : decode cX1_tryWay 90 = .ok (.getfield 47, 3) := by decide +kernel
theorem dX1_tryWay_93 : decode cX1_tryWay 93 = .ok (.iload_n 3, 1) := by decide +kernel
theorem dX1_tryWay_94 : decode cX1_tryWay 94 = .ok (.iload_n 1, 1) := by decide +kernel
theorem dX1_tryWay_95 : decode cX1_tryWay 95 = .ok (.iastore, 1) := by decide +kernel
theorem dX1_tryWay_96 : decode cX1_tryWay 96 = .ok (.return_, 1) := by decide +kernel
theorem dX1_isSomeWayTooLong_0 : decode cX1_isSomeWayTooLong 0 = .ok (.iconst 0, 1) := by decide +kernel
theorem dX1_isSomeWayTooLong_1 : decode cX1_isSomeWayTooLong 1 = .ok (.istore_n 1, 1) := by decide +kernel
theorem dX1_isSomeWayTooLong_2 : decode cX1_isSomeWayTooLong 2 = .ok (.iload_n 1, 1) := by decide +kernel
theorem dX1_isSomeWayTooLong_3 : decode cX1_isSomeWayTooLong 3 = .ok (.aload_n 0, 1) := by decide +kernel
theorem dX1_isSomeWayTooLong_4 : decode cX1_isSomeWayTooLong 4 = .ok (.getfield 18, 3) := by decide +kernel
theorem dX1_isSomeWayTooLong_7 : decode cX1_isSomeWayTooLong 7 = .ok (.if_icmp .ge 29, 3) := by decide +kernel
theorem dX1_isSomeWayTooLong_10 : decode cX1_isSomeWayTooLong 10 = .ok (.aload_n 0, 1) := by decide +kernel
theorem dX1_isSomeWayTooLong_11 : decode cX1_isSomeWayTooLong 11 = .ok (.getfield 44, 3) := by decide +kernel
theorem dX1_isSomeWayTooLong_14 : decode cX1_isSomeWayTooLong 14 = .ok (.iload_n 1, 1) := by decide +kernel
theorem dX1_isSomeWayTooLong_15 : decode cX1_isSomeWayTooLong 15 = .ok (.iaload, 1) := by decide +kernel
theorem dX1_isSomeWayTooLong_16 : decode cX1_isSomeWayTooLong 16 = .ok (.iconst (-1), 1) := by decide +kernel
theorem dX1_isSomeWayTooLong_17 : decode cX1_isSomeWayTooLong 17 = .ok (.if_icmp .eq 13, 3) := by decide +kernel
theorem dX1_isSomeWayTooLong_20 : decode cX1_isSomeWayTooLong 20 = .ok (.aload_n 0, 1) := by decide +kernel
theorem dX1_isSomeWayTooLong_21 : decode cX1_isSomeWayTooLong 21 = .ok (.iload_n 1, 1) := by decide +kernel
theorem dX1_isSomeWayTooLong_22 : decode cX1_isSomeWayTooLong 22 = .ok (.invokevirtual 153, 3) := by decide +kernel
theorem dX1_isSomeWayTooLong_25 : decode cX1_isSomeWayTooLong 25 = .ok (.ifCond .eq 5, 3) := by decide +kernel
theorem dX1_isSomeWayTooLong_28 : decode cX1_isSomeWayTooLong 28 = .ok (.iconst 1, 1) := by decide +kernel
theorem dX1_isSomeWayTooLong_29 : decode cX1_isSomeWayTooLong 29 = .ok (.ireturn, 1) := by decide +kernel
theorem dX1_isSomeWayTooLong_30 : decode cX1_isSomeWayTooLong 30 = .ok (.iinc 1 1, 3) := by decide +kernel
theorem dX1_isSomeWayTooLong_33 : decode cX1_isSomeWayTooLong 33 = .ok (.goto (-31), 3) := by decide +kernel
theorem dX1_isSomeWayTooLong_36 : decode cX1_isSomeWayTooLong 36 = .ok (.iconst 0, 1) := by decide +kernel
theorem dX1_isSomeWayTooLong_37 : decode cX1_isSomeWayTooLong 37 = .ok (.ireturn, 1) := by decide +kernel
theorem dX1_leadsToUntaken_0 : decode cX1_leadsToUntaken 0 = .ok (.aload_n 0, 1) := by decide +kernel
theorem dX1_leadsToUntaken_1 : decode cX1_leadsToUntaken 1 = .ok (.getfield 40, 3) := by decide +kernel
theorem dX1_leadsToUntaken_4 : decode cX1_leadsToUntaken 4 = .ok (.iload_n 1, 1) := by decide +kernel
theorem dX1_leadsToUntaken_5 : decode cX1_leadsToUntaken 5 = .ok (.aaload, 1) := by decide +kernel
theorem dX1_leadsToUntaken_6 : decode cX1_leadsToUntaken 6 = .ok (.astore_n 2, 1) := by decide +kernel
theorem dX1_leadsToUntaken_7 : decode cX1_leadsToUntaken 7 = .ok (.aload_n 2, 1) := by decide +kernel
theorem dX1_leadsToUntaken_8 : decode cX1_leadsToUntaken 8 = .ok (.ifnull 26, 3) := by decide +kernel
theorem dX1_leadsToUntaken_11 : decode cX1_leadsToUntaken 11 = .ok (.aload_n 0, 1) := by decide +kernel
theorem dX1_leadsToUntaken_12 : decode cX1_leadsToUntaken 12 = .ok (.getfield 44, 3) := by decide +kernel
theorem dX1_leadsToUntaken_15 : decode cX1_leadsToUntaken 15 = .ok (.aload_n 2, 1) := by decide +kernel
theorem dX1_leadsToUntaken_16 : decode cX1_leadsToUntaken 16 = .ok (.getfield 142, 3) := by decide +kernel
theorem dX1_leadsToUntaken_19 : decode cX1_leadsToUntaken 19 = .ok (.iaload, 1) := by decide +kernel
theorem dX1_leadsToUntaken_20 : decode cX1_leadsToUntaken 20 = .ok (.iconst (-1), 1) := by decide +kernel
theorem dX1_leadsToUntaken_21 : decode cX1_leadsToUntaken 21 = .ok (.if_icmp .ne 5, 3) := by decide +kernel
theorem dX1_leadsToUntaken_24 : decode cX1_leadsToUntaken 24 = .ok (.iconst 1, 1) := by decide +kernel
theorem dX1_leadsToUntaken_25 : decode cX1_leadsToUntaken 25 = .ok (.ireturn, 1) := by decide +kernel
theorem dX1_leadsToUntaken_26 : decode cX1_leadsToUntaken 26 = .ok (.aload_n 2, 1) := by decide +kernel
theorem dX1_leadsToUntaken_27 : decode cX1_leadsToUntaken 27 = .ok (.getfield 138, 3) := by decide +kernel
theorem dX1_leadsToUntaken_30 : decode cX1_leadsToUntaken 30 = .ok (.astore_n 2, 1) := by decide +kernel
theorem dX1_leadsToUntaken_31 : decode cX1_leadsToUntaken 31 = .ok (.goto (-24), 3) := by decide +kernel
theorem dX1_leadsToUntaken_34 : decode cX1_leadsToUntaken 34 = .ok (.iconst 0, 1) := by decide +kernel
theorem dX1_leadsToUntaken_35 : decode cX1_leadsToUntaken 35 = .ok (.ireturn, 1) := by decide +kernel
theorem dJ6_numberOfLeadingZeros_0f7a4_0 : decode cJ6_numberOfLeadingZeros_0f7a4 0 = .ok (.iload_n 0, 1) := by decide +kernel
theorem dJ6_numberOfLeadingZeros_0f7a4_1 : decode cJ6_numberOfLeadingZeros_0f7a4 1 = .ok (.ifCond .gt 14, 3) := by decide +kernel
theorem dJ6_numberOfLeadingZeros_0f7a4_4 : decode cJ6_numberOfLeadingZeros_0f7a4 4 = .ok (.iload_n 0, 1) := by decide +kernel
theorem dJ6_numberOfLeadingZeros_0f7a4_5 : decode cJ6_numberOfLeadingZeros_0f7a4 5 = .ok (.ifCond .ne 8, 3) := by decide +kernel
theorem dJ6_numberOfLeadingZeros_0f7a4_8 : decode cJ6_numberOfLeadingZeros_0f7a4 8 = .ok (.bipush 32, 2) := by decide +kernel
theorem dJ6_numberOfLeadingZeros_0f7a4_10 : decode cJ6_numberOfLeadingZeros_0f7a4 10 = .ok (.goto 4, 3) := by decide +kernel
theorem dJ6_numberOfLeadingZeros_0f7a4_13 : decode cJ6_numberOfLeadingZeros_0f7a4 13 = .ok (.iconst 0, 1) := by decide +kernel
theorem dJ6_numberOfLeadingZeros_0f7a4_14 : decode cJ6_numberOfLeadingZeros_0f7a4 14 = .ok (.ireturn, 1) := by decide +kernel
theorem dJ6_numberOfLeadingZeros_0f7a4_15 : decode cJ6_numberOfLeadingZeros_0f7a4 15 = .ok (.bipush 31, 2) := by decide +kernel
theorem dJ6_numberOfLeadingZeros_0f7a4_17 : decode cJ6_numberOfLeadingZeros_0f7a4 17 = .ok (.istore_n 1, 1) := by decide +kernel
theorem dJ6_numberOfLeadingZeros_0f7a4_18 : decode cJ6_numberOfLeadingZeros_0f7a4 18 = .ok (.iload_n 0, 1) := by decide +kernel
theorem dJ6_numberOfLeadingZeros_0f7a4_19 : decode cJ6_numberOfLeadingZeros_0f7a4 19 = .ok (.ldc_w 264, 3) := by decide +kernel
theorem dJ6_numberOfLeadingZeros_0f7a4_22 : decode cJ6_numberOfLeadingZeros_0f7a4 22 = .ok (.if_icmp .lt 11, 3) := by decide +kernel
theorem dJ6_numberOfLeadingZeros_0f7a4_25 : decode cJ6_numberOfLeadingZeros_0f7a4 25 = .ok (.iinc 1 (-16), 3) := by decide +kernel
theorem dJ6_numberOfLeadingZeros_0f7a4_28 : decode cJ6_numberOfLeadingZeros_0f7a4 28 = .ok (.iload_n 0, 1) := by decide +kernel
theorem dJ6_numberOfLeadingZeros_0f7a4_29 : decode cJ6_numberOfLeadingZeros_0f7a4 29 = .ok (.bipush 16, 2) := by decide +kernel
theorem dJ6_numberOfLeadingZeros_0f7a4_31 : decode cJ6_numberOfLeadingZeros_0f7a4 31 = .ok (.iushr, 1) := by decide +kernel
theorem dJ6_numberOfLeadingZeros_0f7a4_32 : decode cJ6_numberOfLeadingZeros_0f7a4 32 = .ok (.istore_n 0, 1) := by decide +kernel
theorem dJ6_numberOfLeadingZeros_0f7a4_33 : decode cJ6_numberOfLeadingZeros_0f7a4 33 = .ok (.iload_n 0, 1) := by decide +kernel
theorem dJ6_numberOfLeadingZeros_0f7a4_34 : decode cJ6_numberOfLeadingZeros_0f7a4 34 = .ok (.sipush 256, 3) := by decide +kernel
theorem dJ6_numberOfLeadingZeros_0f7a4_37 : decode cJ6_numberOfLeadingZeros_0f7a4 37 = .ok (.if_icmp .lt 11, 3) := by decide +kernel
theorem dJ6_numberOfLeadingZeros_0f7a4_40 : decode cJ6_numberOfLeadingZeros_0f7a4 40 = .ok (.iinc 1 (-8), 3) := by decide +kernel
theorem dJ6_numberOfLeadingZeros_0f7a4_43 : decode cJ6_numberOfLeadingZeros_0f7a4 43 = .ok (.iload_n 0, 1) := by decide +kernel
theorem dJ6_numberOfLeadingZeros_0f7a4_44 : decode cJ6_numberOfLeadingZeros_0f7a4 44 = .ok (.bipush 8, 2) := by decide +kernel
theorem dJ6_numberOfLeadingZeros_0f7a4_46 : decode cJ6_numberOfLeadingZeros_0f7a4 46 = .ok (.iushr, 1) := by decide +kernel
theorem dJ6_numberOfLeadingZeros_0f7a4_47 : decode cJ6_numberOfLeadingZeros_0f7a4 47 = .ok (.istore_n 0, 1) := by decide +kernel
theorem dJ6_numberOfLeadingZeros_0f7a4_48 : decode cJ6_numberOfLeadingZeros_0f7a4 48 = .ok (.iload_n 0, 1) := by decide +kernel
theorem dJ6_numberOfLeadingZeros_0f7a4_49 : decode cJ6_numberOfLeadingZeros_0f7a4 49 = .ok (.bipush 16, 2) := by decide +kernel
theorem dJ6_numberOfLeadingZeros_0f7a4_51 : decode cJ6_numberOfLeadingZeros_0f7a4 51 = .ok (.if_icmp .lt 10, 3) := by decide +kernel
theorem dJ6_numberOfLeadingZeros_0f7a4_54 : decode cJ6_numberOfLeadingZeros_0f7a4 54 = .ok (.iinc 1 (-4), 3) := by decide +kernel
theorem dJ6_numberOfLeadingZeros_0f7a4_57 : decode cJ6_numberOfLeadingZeros_0f7a4 57 = .ok (.iload_n 0, 1) := by decide +kernel
theorem dJ6_numberOfLeadingZeros_0f7a4_58 : decode cJ6_numberOfLeadingZeros_0f7a4 58 = .ok (.iconst 4, 1) := by decide +kernel
theorem dJ6_numberOfLeadingZeros_0f7a4_59 : decode cJ6_numberOfLeadingZeros_0f7a4 59 = .ok (.iushr, 1) := by decide +kernel
theorem dJ6_numberOfLeadingZeros_0f7a4_60 : decode cJ6_numberOfLeadingZeros_0f7a4 60 = .ok (.istore_n 0, 1) := by decide +kernel
theorem dJ6_numberOfLeadingZeros_0f7a4_61 : decode cJ6_numberOfLeadingZeros_0f7a4 61 = .ok (.iload_n 0, 1) := by decide +kernel
theorem dJ6_numberOfLeadingZeros_0f7a4_62 : decode cJ6_numberOfLeadingZeros_0f7a4 62 = .ok (.iconst 4, 1) := by decide +kernel
theorem dJ6_numberOfLeadingZeros_0f7a4_63 : decode cJ6_numberOfLeadingZeros_0f7a4 63 = .ok (.if_icmp .lt 10, 3) := by decide +kernel
theorem dJ6_numberOfLeadingZeros_0f7a4_66 : decode cJ6_numberOfLeadingZeros_0f7a4 66 = .ok (.iinc 1 (-2), 3) := by decide +kernel
theorem dJ6_numberOfLeadingZeros_0f7a4_69 : decode cJ6_numberOfLeadingZeros_0f7a4 69 = .ok (.iload_n 0, 1) := by decide +kernel
theorem dJ6_numberOfLeadingZeros_0f7a4_70 : decode cJ6_numberOfLeadingZeros_0f7a4 70 = .ok (.iconst 2, 1) := by decide +kernel
theorem dJ6_numberOfLeadingZeros_0f7a4_71 : decode cJ6_numberOfLeadingZeros_0f7a4 71 = .ok (.iushr, 1) := by decide +kernel
theorem dJ6_numberOfLeadingZeros_0f7a4_72 : decode cJ6_numberOfLeadingZeros_0f7a4 72 = .ok (.istore_n 0, 1) := by decide +kernel
theorem dJ6_numberOfLeadingZeros_0f7a4_73 : decode cJ6_numberOfLeadingZeros_0f7a4 73 = .ok (.iload_n 1, 1) := by decide +kernel
theorem dJ6_numberOfLeadingZeros_0f7a4_74 : decode cJ6_numberOfLeadingZeros_0f7a4 74 = .ok (.iload_n 0, 1) := by decide +kernel
theorem dJ6_numberOfLeadingZeros_0f7a4_75 : decode cJ6_numberOfLeadingZeros_0f7a4 75 = .ok (.iconst 1, 1) := by decide +kernel
theorem dJ6_numberOfLeadingZeros_0f7a4_76 : decode cJ6_numberOfLeadingZeros_0f7a4 76 = .ok (.iushr, 1) := by decide +kernel
theorem dJ6_numberOfLeadingZeros_0f7a4_77 : decode cJ6_numberOfLeadingZeros_0f7a4 77 = .ok (.isub, 1) := by decide +kernel
theorem dJ6_numberOfLeadingZeros_0f7a4_78 : decode cJ6_numberOfLeadingZeros_0f7a4 78 = .ok (.ireturn, 1) := by decide +kernel
theorem dJ9_max_7cf53_0 : decode cJ9_max_7cf53 0 = .ok (.iload_n 0, 1) := by decide +kernel
theorem dJ9_max_7cf53_1 : decode cJ9_max_7cf53 1 = .ok (.iload_n 1, 1) := by decide +kernel
theorem dJ9_max_7cf53_2 : decode cJ9_max_7cf53 2 = .ok (.if_icmp .lt 7, 3) := by decide +kernel
theorem dJ9_max_7cf53_5 : decode cJ9_max_7cf53 5 = .ok (.iload_n 0, 1) := by decide +kernel
theorem dJ9_max_7cf53_6 : decode cJ9_max_7cf53 6 = .ok (.goto 4, 3) := by decide +kernel
theorem dJ9_max_7cf53_9 : decode cJ9_max_7cf53 9 = .ok (.iload_n 1, 1) := by decide +kernel
theorem dJ9_max_7cf53_10 : decode cJ9_max_7cf53 10 = .ok (.ireturn, 1) := by decide +kernel
theorem dJ9_min_7cf53_0 : decode cJ9_min_7cf53 0 = .ok (.iload_n 0, 1) := by decide +kernel
theorem dJ9_min_7cf53_1 : decode cJ9_min_7cf53 1 = .ok (.iload_n 1, 1) := by decide +kernel
theorem dJ9_min_7cf53_2 : decode cJ9_min_7cf53 2 = .ok (.if_icmp .gt 7, 3) := by decide +kernel
theorem dJ9_min_7cf53_5 : decode cJ9_min_7cf53 5 = .ok (.iload_n 0, 1) := by decide +kernel
theorem dJ9_min_7cf53_6 : decode cJ9_min_7cf53 6 = .ok (.goto 4, 3) := by decide +kernel
theorem dJ9_min_7cf53_9 : decode cJ9_min_7cf53 9 = .ok (.iload_n 1, 1) := by decide +kernel
theorem dJ9_min_7cf53_10 : decode cJ9_min_7cf53 10 = .ok (.ireturn, 1) := by decide +kernel
theorem dJ7_fill_53178_0 : decode cJ7_fill_53178 0 = .ok (.iconst 0, 1) := by decide +kernel
theorem dJ7_fill_53178_1 : decode cJ7_fill_53178 1 = .ok (.istore_n 2, 1) := by decide +kernel
theorem dJ7_fill_53178_2 : decode cJ7_fill_53178 2 = .ok (.aload_n 0, 1) := by decide +kernel
theorem dJ7_fill_53178_3 : decode cJ7_fill_53178 3 = .ok (.arraylength, 1) := by decide +kernel
theorem dJ7_fill_53178_4 : decode cJ7_fill_53178 4 = .ok (.istore_n 3, 1) := by decide +kernel
theorem dJ7_fill_53178_5 : decode cJ7_fill_53178 5 = .ok (.iload_n 2, 1) := by decide +kernel
theorem dJ7_fill_53178_6 : decode cJ7_fill_53178 6 = .ok (.iload_n 3, 1) := by decide +kernel
theorem dJ7_fill_53178_7 : decode cJ7_fill_53178 7 = .ok (.if_icmp .ge 13, 3) := by decide +kernel
theorem dJ7_fill_53178_10 : decode cJ7_fill_53178 10 = .ok (.aload_n 0, 1) := by decide +kernel
theorem dJ7_fill_53178_11 : decode cJ7_fill_53178 11 = .ok (.iload_n 2, 1) := by decide +kernel
theorem dJ7_fill_53178_12 : decode cJ7_fill_53178 12 = .ok (.iload_n 1, 1) := by decide +kernel
theorem dJ7_fill_53178_13 : decode cJ7_fill_53178 13 = .ok (.iastore, 1) := by decide +kernel
theorem dJ7_fill_53178_14 : decode cJ7_fill_53178 14 = .ok (.iinc 2 1, 3) := by decide +kernel
theorem dJ7_fill_53178_17 : decode cJ7_fill_53178 17 = .ok (.goto (-12), 3) := by decide +kernel
theorem dJ7_fill_53178_20 : decode cJ7_fill_53178 20 = .ok (.return_, 1) := by decide +kernel
end
section
theorem dX2_init_0 : decode cX2_init 0 = .ok (.aload_n 0, 1) := by decide +kernel
theorem dX2_init_1 : decode cX2_init 1 = .ok (.invokespecial 1, 3) := by decide +kernel
theorem dX2_init_4 : decode cX2_init 4 = .ok (.aload_n 0, 1) := by decide +kernel
theorem dX2_init_5 : decode cX2_init 5 = .ok (.bipush 40, 2) := by decide +kernel
theorem dX2_init_7 : decode cX2_init 7 = .ok (.newarray .int, 2) := by decide +kernel
theorem dX2_init_9 : decode cX2_init 9 = .ok (.putfield 7, 3) := by decide +kernel
theorem dX2_init_12 : decode cX2_init 12 = .ok (.aload_n 0, 1) := by decide +kernel
theorem dX2_init_13 : decode cX2_init 13 = .ok (.sipush 300, 3) := by decide +kernel
theorem dX2_init_16 : decode cX2_init 16 = .ok (.newarray .int, 2) := by decide +kernel
theorem dX2_init_18 : decode cX2_init 18 = .ok (.putfield 13, 3) := by decide +kernel
theorem dX2_init_21 : decode cX2_init 21 = .ok (.aload_n 0, 1) := by decide +kernel
theorem dX2_init_22 : decode cX2_init 22 = .ok (.sipush 300, 3) := by decide +kernel
theorem dX2_init_25 : decode cX2_init 25 = .ok (.newarray .int, 2) := by decide +kernel
theorem dX2_init_27 : decode cX2_init 27 = .ok (.putfield 16, 3) := by decide +kernel
theorem dX2_init_30 : decode cX2_init 30 = .ok (.aload_n 0, 1) := by decide +kernel
theorem dX2_init_31 : decode cX2_init 31 = .ok (.sipush 300, 3) := by decide +kernel
theorem dX2_init_34 : decode cX2_init 34 = .ok (.newarray .int, 2) := by decide +kernel
theorem dX2_init_36 : decode cX2_init 36 = .ok (.putfield 19, 3) := by decide +kernel
theorem dX2_init_39 : decode cX2_init 39 = .ok (.aload_n 0, 1) := by decide +kernel
theorem dX2_init_40 : decode cX2_init 40 = .ok (.bipush 40, 2) := by decide +kernel
theorem dX2_init_42 : decode cX2_init 42 = .ok (.newarray .int, 2) := by decide +kernel
theorem dX2_init_44 : decode cX2_init 44 = .ok (.putfield 22, 3) := by decide +kernel
theorem dX2_init_47 : decode cX2_init 47 = .ok (.aload_n 0, 1) := by decide +kernel
theorem dX2_init_48 : decode cX2_init 48 = .ok (.bipush 40, 2) := by decide +kernel
theorem dX2_init_50 : decode cX2_init 50 = .ok (.newarray .int, 2) := by decide +kernel
theorem dX2_init_52 : decode cX2_init 52 = .ok (.putfield 25, 3) := by decide +kernel
theorem dX2_init_55 : decode cX2_init 55 = .ok (.aload_n 0, 1) := by decide +kernel
theorem dX2_init_56 : decode cX2_init 56 = .ok (.bipush 40, 2) := by decide +kernel
theorem dX2_init_58 : decode cX2_init 58 = .ok (.newarray .boolean, 2) := by decide +kernel
theorem dX2_init_60 : decode cX2_init 60 = .ok (.putfield 28, 3) := by decide +kernel
theorem dX2_init_63 : decode cX2_init 63 = .ok (.aload_n 0, 1) := by decide +kernel
theorem dX2_init_64 : decode cX2_init 64 = .ok (.bipush 40, 2) := by decide +kernel
theorem dX2_init_66 : decode cX2_init 66 = .ok (.newarray .boolean, 2) := by decide +kernel
theorem dX2_init_68 : decode cX2_init 68 = .ok (.putfield 32, 3) := by decide +kernel
theorem dX2_init_71 : decode cX2_init 71 = .ok (.aload_n 0, 1) := by decide +kernel
theorem dX2_init_72 : decode cX2_init 72 = .ok (.iload_n 1, 1) := by decide +kernel
theorem dX2_init_73 : decode cX2_init 73 = .ok (.iconst 1, 1) := by decide +kernel
theorem dX2_init_74 : decode cX2_init 74 = .ok (.if_icmp .ge 7, 3) := by decide +kernel
theorem dX2_init_77 : decode cX2_init 77 = .ok (.iconst 1, 1) := by decide +kernel
theorem dX2_init_78 : decode cX2_init 78 = .ok (.goto 15, 3) := by decide +kernel
theorem dX2_init_81 : decode cX2_init 81 = .ok (.iload_n 1, 1) := by decide +kernel
theorem dX2_init_82 : decode cX2_init 82 = .ok (.bipush 40, 2) := by decide +kernel
theorem dX2_init_84 : decode cX2_init 84 = .ok (.if_icmp .le 8, 3) := by decide +kernel
theorem dX2_init_87 : decode cX2_init 87 = .ok (.bipush 40, 2) := by decide +kernel
theorem dX2_init_89 : decode cX2_init 89 = .ok (.goto 4, 3) := by decide +kernel
theorem dX2_init_92 : decode cX2_init 92 = .ok (.iload_n 1, 1) := by decide +kernel
theorem dX2_init_93 : decode cX2_init 93 = .ok (.putfield 35, 3) := by decide +kernel
theorem dX2_init_96 : decode cX2_init 96 = .ok (.aload_n 0, 1) := by decide +kernel
theorem dX2_init_97 : decode cX2_init 97 = .ok (.iload_n 2, 1) := by decide +kernel
theorem dX2_init_98 : decode cX2_init 98 = .ok (.iconst 1, 1) := by decide +kernel
theorem dX2_init_99 : decode cX2_init 99 = .ok (.if_icmp .ge 7, 3) := by decide +kernel
theorem dX2_init_102 : decode cX2_init 102 = .ok (.iconst 1, 1) := by decide +kernel
theorem dX2_init_103 : decode cX2_init 103 = .ok (.goto 17, 3) := by decide +kernel
theorem dX2_init_106 : decode cX2_init 106 = .ok (.iload_n 2, 1) := by decide +kernel
theorem dX2_init_107 : decode cX2_init 107 = .ok (.sipush 300, 3) := by decide +kernel
theorem dX2_init_110 : decode cX2_init 110 = .ok (.if_icmp .le 9, 3) := by decide +kernel
theorem dX2_init_113 : decode cX2_init 113 = .ok (.sipush 300, 3) := by decide +kernel
theorem dX2_init_116 : decode cX2_init 116 = .ok (.goto 4, 3) := by decide +kernel
theorem dX2_init_119 : decode cX2_init 119 = .ok (.iload_n 2, 1) := by decide +kernel
theorem dX2_init_120 : decode cX2_init 120 = .ok (.putfield 39, 3) := by decide +kernel
theorem dX2_init_123 : decode cX2_init 123 = .ok (.aload_n 0, 1) := by decide +kernel
theorem dX2_init_124 : decode cX2_init 124 = .ok (.iload_n 3, 1) := by decide +kernel
theorem dX2_init_125 : decode cX2_init 125 = .ok (.ifCond .ge 7, 3) := by decide +kernel
theorem dX2_init_128 : decode cX2_init 128 = .ok (.iconst 0, 1) := by decide +kernel
theorem dX2_init_129 : decode cX2_init 129 = .ok (.goto 4, 3) := by decide +kernel
theorem dX2_init_132 : decode cX2_init 132 = .ok (.iload_n 3, 1) := by decide +kernel
theorem dX2_init_133 : decode cX2_init 133 = .ok (.putfield 42, 3) := by decide +kernel
theorem dX2_init_136 : decode cX2_init 136 = .ok (.aload_n 0, 1) := by decide +kernel
theorem dX2_init_137 : decode cX2_init 137 = .ok (.invokevirtual 45, 3) := by decide +kernel
theorem dX2_init_140 : decode cX2_init 140 = .ok (.return_, 1) := by decide +kernel
theorem dX2_clear_0 : decode cX2_clear 0 = .ok (.iconst 0, 1) := by decide +kernel
theorem dX2_clear_1 : decode cX2_clear 1 = .ok (.istore_n 1, 1) := by decide +kernel
theorem dX2_clear_2 : decode cX2_clear 2 = .ok (.iload_n 1, 1) := by decide +kernel
theorem dX2_clear_3 : decode cX2_clear 3 = .ok (.bipush 40, 2) := by decide +kernel
theorem dX2_clear_5 : decode cX2_clear 5 = .ok (.if_icmp .ge 16, 3) := by decide +kernel
theorem dX2_clear_8 : decode cX2_clear 8 = .ok (.aload_n 0, 1) := by decide +kernel
theorem dX2_clear_9 : decode cX2_clear 9 = .ok (.getfield 7, 3) := by decide +kernel
theorem dX2_clear_12 : decode cX2_clear 12 = .ok (.iload_n 1, 1) := by decide +kernel
theorem dX2_clear_13 : decode cX2_clear 13 = .ok (.iconst (-1), 1) := by decide +kernel
theorem dX2_clear_14 : decode cX2_clear 14 = .ok (.iastore, 1) := by decide +kernel
theorem dX2_clear_15 : decode cX2_clear 15 = .ok (.iinc 1 1, 3) := by decide +kernel
theorem dX2_clear_18 : decode cX2_clear 18 = .ok (.goto (-16), 3) := by decide +kernel
theorem dX2_clear_21 : decode cX2_clear 21 = .ok (.aload_n 0, 1) := by decide +kernel
theorem dX2_clear_22 : decode cX2_clear 22 = .ok (.iconst 0, 1) := by decide +kernel
theorem dX2_clear_23 : decode cX2_clear 23 = .ok (.putfield 48, 3) := by decide +kernel
theorem dX2_clear_26 : decode cX2_clear 26 = .ok (.return_, 1) := by decide +kernel
theorem dX2_isItem_0 : decode cX2_isItem 0 = .ok (.iload_n 1, 1) := by decide +kernel
theorem dX2_isItem_1 : decode cX2_isItem 1 = .ok (.ifCond .lt 15, 3) := by decide +kernel
theorem dX2_isItem_4 : decode cX2_isItem 4 = .ok (.iload_n 1, 1) := by decide +kernel
theorem dX2_isItem_5 : decode cX2_isItem 5 = .ok (.aload_n 0, 1) := by decide +kernel
theorem dX2_isItem_6 : decode cX2_isItem 6 = .ok (.getfield 35, 3) := by decide +kernel
theorem dX2_isItem_9 : decode cX2_isItem 9 = .ok (.if_icmp .ge 7, 3) := by decide +kernel
theorem dX2_isItem_12 : decode cX2_isItem 12 = .ok (.iconst 1, 1) := by decide +kernel
theorem dX2_isItem_13 : decode cX2_isItem 13 = .ok (.goto 4, 3) := by decide +kernel
theorem dX2_isItem_16 : decode cX2_isItem 16 = .ok (.iconst 0, 1) := by decide +kernel
theorem dX2_isItem_17 : decode cX2_isItem 17 = .ok (.ireturn, 1) := by decide +kernel
theorem dX2_isThere_0 : decode cX2_isThere 0 = .ok (.aload_n 0, 1) := by decide +kernel
theorem dX2_isThere_1 : decode cX2_isThere 1 = .ok (.iload_n 1, 1) := by decide +kernel
theorem dX2_isThere_2 : decode cX2_isThere 2 = .ok (.invokevirtual 51, 3) := by decide +kernel
theorem dX2_isThere_5 : decode cX2_isThere 5 = .ok (.ifCond .eq 17, 3) := by decide +kernel
theorem dX2_isThere_8 : decode cX2_isThere 8 = .ok (.aload_n 0, 1) := by decide +kernel
theorem dX2_isThere_9 : decode cX2_isThere 9 = .ok (.getfield 7, 3) := by decide +kernel
theorem dX2_isThere_12 : decode cX2_isThere 12 = .ok (.iload_n 1, 1) := by decide +kernel
theorem dX2_isThere_13 : decode cX2_isThere 13 = .ok (.iaload, 1) := by decide +kernel
theorem dX2_isThere_14 : decode cX2_isThere 14 = .ok (.iconst (-1), 1) := by decide +kernel
theorem dX2_isThere_15 : decode cX2_isThere 15 = .ok (.if_icmp .eq 7, 3) := by decide +kernel
theorem dX2_isThere_18 : decode cX2_isThere 18 = .ok (.iconst 1, 1) := by decide +kernel
theorem dX2_isThere_19 : decode cX2_isThere 19 = .ok (.goto 4, 3) := by decide +kernel
theorem dX2_isThere_22 : decode cX2_isThere 22 = .ok (.iconst 0, 1) := by decide +kernel
theorem dX2_isThere_23 : decode cX2_isThere 23 = .ok (.ireturn, 1) := by decide +kernel
theorem dX2_unlike_0 : decode cX2_unlike 0 = .ok (.iconst 0, 1) := by decide +kernel
theorem dX2_unlike_1 : decode cX2_unlike 1 = .ok (.istore_n 2, 1) := by decide +kernel
theorem dX2_unlike_2 : decode cX2_unlike 2 = .ok (.iconst 0, 1) := by decide +kernel
theorem dX2_unlike_3 : decode cX2_unlike 3 = .ok (.istore_n 3, 1) := by decide +kernel
theorem dX2_unlike_4 : decode cX2_unlike 4 = .ok (.iload_n 3, 1) := by decide +kernel
theorem dX2_unlike_5 : decode cX2_unlike 5 = .ok (.bipush 31, 2) := by decide +kernel
theorem dX2_unlike_7 : decode cX2_unlike 7 = .ok (.if_icmp .ge 30, 3) := by decide +kernel
theorem dX2_unlike_10 : decode cX2_unlike 10 = .ok (.iload_n 0, 1) := by decide +kernel
theorem dX2_unlike_11 : decode cX2_unlike 11 = .ok (.iload_n 3, 1) := by decide +kernel
theorem dX2_unlike_12 : decode cX2_unlike 12 = .ok (.ishr, 1) := by decide +kernel
theorem dX2_unlike_13 : decode cX2_unlike 13 = .ok (.iconst 1, 1) := by decide +kernel
theorem dX2_unlike_14 : decode cX2_unlike 14 = .ok (.iand, 1) := by decide +kernel
theorem dX2_unlike_15 : decode cX2_unlike 15 = .ok (.iload_n 1, 1) := by decide +kernel
theorem dX2_unlike_16 : decode cX2_unlike 16 = .ok (.iload_n 3, 1) := by decide +kernel
theorem dX2_unlike_17 : decode cX2_unlike 17 = .ok (.ishr, 1) := by decide +kernel
theorem dX2_unlike_18 : decode cX2_unlike 18 = .ok (.iconst 1, 1) := by decide +kernel
theorem dX2_unlike_19 : decode cX2_unlike 19 = .ok (.iand, 1) := by decide +kernel
theorem dX2_unlike_20 : decode cX2_unlike 20 = .ok (.if_icmp .eq 9, 3) := by decide +kernel
theorem dX2_unlike_23 : decode cX2_unlike 23 = .ok (.iload_n 3, 1) := by decide +kernel
theorem dX2_unlike_24 : decode cX2_unlike 24 = .ok (.iconst 1, 1) := by decide +kernel
theorem dX2_unlike_25 : decode cX2_unlike 25 = .ok (.iadd, 1) := by decide +kernel
theorem dX2_unlike_26 : decode cX2_unlike 26 = .ok (.goto 4, 3) := by decide +kernel
theorem dX2_unlike_29 : decode cX2_unlike 29 = .ok (.iload_n 2, 1) := by decide +kernel
theorem dX2_unlike_30 : decode cX2_unlike 30 = .ok (.istore_n 2, 1) := by decide +kernel
theorem dX2_unlike_31 : decode cX2_unlike 31 = .ok (.iinc 3 1, 3) := by decide +kernel
theorem dX2_unlike_34 : decode cX2_unlike 34 = .ok (.goto (-30), 3) := by decide +kernel
theorem dX2_unlike_37 : decode cX2_unlike 37 = .ok (.iload_n 2, 1) := by decide +kernel
theorem dX2_unlike_38 : decode cX2_unlike 38 = .ok (.ireturn, 1) := by decide +kernel
theorem dX2_push_0 : decode cX2_push 0 = .ok (.aload_n 0, 1) := by decide +kernel
theorem dX2_push_1 : decode cX2_push 1 = .ok (.iload_n 1, 1) := by decide +kernel
theorem dX2_push_2 : decode cX2_push 2 = .ok (.invokevirtual 51, 3) := by decide +kernel
theorem dX2_push_5 : decode cX2_push 5 = .ok (.ifCond .eq 13, 3) := by decide +kernel
theorem dX2_push_8 : decode cX2_push 8 = .ok (.aload_n 0, 1) := by decide +kernel
theorem dX2_push_9 : decode cX2_push 9 = .ok (.getfield 7, 3) := by decide +kernel
theorem dX2_push_12 : decode cX2_push 12 = .ok (.iload_n 1, 1) := by decide +kernel
theorem dX2_push_13 : decode cX2_push 13 = .ok (.iaload, 1) := by decide +kernel
theorem dX2_push_14 : decode cX2_push 14 = .ok (.iconst (-1), 1) := by decide +kernel
theorem dX2_push_15 : decode cX2_push 15 = .ok (.if_icmp .eq 5, 3) := by decide +kernel
theorem dX2_push_18 : decode cX2_push 18 = .ok (.iconst (-1), 1) := by decide +kernel
theorem dX2_push_19 : decode cX2_push 19 = .ok (.ireturn, 1) := by decide +kernel
theorem dX2_push_20 : decode cX2_push 20 = .ok (.iload_n 2, 1) := by decide +kernel
theorem dX2_push_21 : decode cX2_push 21 = .ok (.aload_n 0, 1) := by decide +kernel
theorem dX2_push_22 : decode cX2_push 22 = .ok (.getfield 48, 3) := by decide +kernel
theorem dX2_push_25 : decode cX2_push 25 = .ok (.if_icmp .ge 6, 3) := by decide +kernel
theorem dX2_push_28 : decode cX2_push 28 = .ok (.bipush (-2), 2) := by decide +kernel
theorem dX2_push_30 : decode cX2_push 30 = .ok (.ireturn, 1) := by decide +kernel
theorem dX2_push_31 : decode cX2_push 31 = .ok (.aload_n 0, 1) := by decide +kernel
theorem dX2_push_32 : decode cX2_push 32 = .ok (.getfield 7, 3) := by decide +kernel
theorem dX2_push_35 : decode cX2_push 35 = .ok (.iload_n 1, 1) := by decide +kernel
theorem dX2_push_36 : decode cX2_push 36 = .ok (.iload_n 2, 1) := by decide +kernel
theorem dX2_push_37 : decode cX2_push 37 = .ok (.iastore, 1) := by decide +kernel
theorem dX2_push_38 : decode cX2_push 38 = .ok (.aload_n 0, 1) := by decide +kernel
theorem dX2_push_39 : decode cX2_push 39 = .ok (.dup, 1) := by decide +kernel
theorem dX2_push_40 : decode cX2_push 40 = .ok (.getfield 55, 3) := by decide +kernel
theorem dX2_push_43 : decode cX2_push 43 = .ok (.iconst 1, 1) := by decide +kernel
theorem dX2_push_44 : decode cX2_push 44 = .ok (.iadd, 1) := by decide +kernel
theorem dX2_push_45 : decode cX2_push 45 = .ok (.putfield 55, 3) := by decide +kernel
theorem dX2_push_48 : decode cX2_push 48 = .ok (.aload_n 0, 1) := by decide +kernel
theorem dX2_push_49 : decode cX2_push 49 = .ok (.dup, 1) := by decide +kernel
theorem dX2_push_50 : decode cX2_push 50 = .ok (.getfield 58, 3) := by decide +kernel
theorem dX2_push_53 : decode cX2_push 53 = .ok (.iconst 1, 1) := by decide +kernel
theorem dX2_push_54 : decode cX2_push 54 = .ok (.iadd, 1) := by decide +kernel
theorem dX2_push_55 : decode cX2_push 55 = .ok (.putfield 58, 3) := by decide +kernel
theorem dX2_push_58 : decode cX2_push 58 = .ok (.iconst 0, 1) := by decide +kernel
theorem dX2_push_59 : decode cX2_push 59 = .ok (.ireturn, 1) := by decide +kernel
theorem dX2_lower_0 : decode cX2_lower 0 = .ok (.aload_n 0, 1) := by decide +kernel
theorem dX2_lower_1 : decode cX2_lower 1 = .ok (.iload_n 1, 1) := by decide +kernel
theorem dX2_lower_2 : decode cX2_lower 2 = .ok (.invokevirtual 61, 3) := by decide +kernel
theorem dX2_lower_5 : decode cX2_lower 5 = .ok (.ifCond .ne 5, 3) := by decide +kernel
theorem dX2_lower_8 : decode cX2_lower 8 = .ok (.iconst (-1), 1) := by decide +kernel
theorem dX2_lower_9 : decode cX2_lower 9 = .ok (.ireturn, 1) := by decide +kernel
theorem dX2_lower_10 : decode cX2_lower 10 = .ok (.iload_n 2, 1) := by decide +kernel
theorem dX2_lower_11 : decode cX2_lower 11 = .ok (.aload_n 0, 1) := by decide +kernel
theorem dX2_lower_12 : decode cX2_lower 12 = .ok (.getfield 48, 3) := by decide +kernel
theorem dX2_lower_15 : decode cX2_lower 15 = .ok (.if_icmp .lt 13, 3) := by decide +kernel
theorem dX2_lower_18 : decode cX2_lower 18 = .ok (.iload_n 2, 1) := by decide +kernel
theorem dX2_lower_19 : decode cX2_lower 19 = .ok (.aload_n 0, 1) := by decide +kernel
theorem dX2_lower_20 : decode cX2_lower 20 = .ok (.getfield 7, 3) := by decide +kernel
theorem dX2_lower_23 : decode cX2_lower 23 = .ok (.iload_n 1, 1) := by decide +kernel
theorem dX2_lower_24 : decode cX2_lower 24 = .ok (.iaload, 1) := by decide +kernel
theorem dX2_lower_25 : decode cX2_lower 25 = .ok (.if_icmp .le 6, 3) := by decide +kernel
theorem dX2_lower_28 : decode cX2_lower 28 = .ok (.bipush (-2), 2) := by decide +kernel
theorem dX2_lower_30 : decode cX2_lower 30 = .ok (.ireturn, 1) := by decide +kernel
theorem dX2_lower_31 : decode cX2_lower 31 = .ok (.aload_n 0, 1) := by decide +kernel
theorem dX2_lower_32 : decode cX2_lower 32 = .ok (.dup, 1) := by decide +kernel
theorem dX2_lower_33 : decode cX2_lower 33 = .ok (.getfield 55, 3) := by decide +kernel
theorem dX2_lower_36 : decode cX2_lower 36 = .ok (.iload_n 2, 1) := by decide +kernel
theorem dX2_lower_37 : decode cX2_lower 37 = .ok (.aload_n 0, 1) := by decide +kernel
theorem dX2_lower_38 : decode cX2_lower 38 = .ok (.getfield 48, 3) := by decide +kernel
theorem dX2_lower_41 : decode cX2_lower 41 = .ok (.invokestatic 64, 3) := by decide +kernel
theorem dX2_lower_44 : decode cX2_lower 44 = .ok (.aload_n 0, 1) := by decide +kernel
theorem dX2_lower_45 : decode cX2_lower 45 = .ok (.getfield 7, 3) := by decide +kernel
theorem dX2_lower_48 : decode cX2_lower 48 = .ok (.iload_n 1, 1) := by decide +kernel
theorem dX2_lower_49 : decode cX2_lower 49 = .ok (.iaload, 1) := by decide +kernel
theorem dX2_lower_50 : decode cX2_lower 50 = .ok (.aload_n 0, 1) := by decide +kernel
theorem dX2_lower_51 : decode cX2_lower 51 = .ok (.getfield 48, 3) := by decide +kernel
theorem dX2_lower_54 : decode cX2_lower 54 = .ok (.invokestatic 64, 3) := by decide +kernel
theorem dX2_lower_57 : decode cX2_lower 57 = .ok (.if_icmp .eq 7, 3) := by decide +kernel
theorem dX2_lower_60 : decode cX2_lower 60 = .ok (.iconst 1, 1) := by decide +kernel
theorem dX2_lower_61 : decode cX2_lower 61 = .ok (.goto 4, 3) := by decide +kernel
theorem dX2_lower_64 : decode cX2_lower 64 = .ok (.iconst 0, 1) := by decide +kernel
theorem dX2_lower_65 : decode cX2_lower 65 = .ok (.iadd, 1) := by decide +kernel
theorem dX2_lower_66 : decode cX2_lower 66 = .ok (.putfield 55, 3) := by decide +kernel
theorem dX2_lower_69 : decode cX2_lower 69 = .ok (.aload_n 0, 1) := by decide +kernel
theorem dX2_lower_70 : decode cX2_lower 70 = .ok (.getfield 7, 3) := by decide +kernel
theorem dX2_lower_73 : decode cX2_lower 73 = .ok (.iload_n 1, 1) := by decide +kernel
theorem dX2_lower_74 : decode cX2_lower 74 = .ok (.iload_n 2, 1) := by decide +kernel
theorem dX2_lower_75 : decode cX2_lower 75 = .ok (.iastore, 1) := by decide +kernel
theorem dX2_lower_76 : decode cX2_lower 76 = .ok (.aload_n 0, 1) := by decide +kernel
theorem dX2_lower_77 : decode cX2_lower 77 = .ok (.dup, 1) := by decide +kernel
theorem dX2_lower_78 : decode cX2_lower 78 = .ok (.getfield 58, 3) := by decide +kernel
theorem dX2_lower_81 : decode cX2_lower 81 = .ok (.iconst 1, 1) := by decide +kernel
theorem dX2_lower_82 : decode cX2_lower 82 = .ok (.iadd, 1) := by decide +kernel
theorem dX2_lower_83 : decode cX2_lower 83 = .ok (.putfield 58, 3) := by decide +kernel
theorem dX2_lower_86 : decode cX2_lower 86 = .ok (.iconst 0, 1) := by decide +kernel
theorem dX2_lower_87 : decode cX2_lower 87 = .ok (.ireturn, 1) := by decide +kernel
theorem dX2_pop_0 : decode cX2_pop 0 = .ok (.iconst (-1), 1) := by decide +kernel
theorem dX2_pop_1 : decode cX2_pop 1 = .ok (.istore_n 1, 1) := by decide +kernel
theorem dX2_pop_2 : decode cX2_pop 2 = .ok (.aload_n 0, 1) := by decide +kernel
theorem dX2_pop_3 : decode cX2_pop 3 = .ok (.getfield 35, 3) := by decide +kernel
theorem dX2_pop_6 : decode cX2_pop 6 = .ok (.iconst 1, 1) := by decide +kernel
theorem dX2_pop_7 : decode cX2_pop 7 = .ok (.isub, 1) := by decide +kernel
theorem dX2_pop_8 : decode cX2_pop 8 = .ok (.istore_n 2, 1) := by decide +kernel
theorem dX2_pop_9 : decode cX2_pop 9 = .ok (.iload_n 2, 1) := by decide +kernel
theorem dX2_pop_10 : decode cX2_pop 10 = .ok (.ifCond .lt 41, 3) := by decide +kernel
theorem dX2_pop_13 : decode cX2_pop 13 = .ok (.aload_n 0, 1) := by decide +kernel
theorem dX2_pop_14 : decode cX2_pop 14 = .ok (.getfield 7, 3) := by decide +kernel
theorem dX2_pop_17 : decode cX2_pop 17 = .ok (.iload_n 2, 1) := by decide +kernel
theorem dX2_pop_18 : decode cX2_pop 18 = .ok (.iaload, 1) := by decide +kernel
theorem dX2_pop_19 : decode cX2_pop 19 = .ok (.iconst (-1), 1) := by decide +kernel
theorem dX2_pop_20 : decode cX2_pop 20 = .ok (.if_icmp .eq 25, 3) := by decide +kernel
theorem dX2_pop_23 : decode cX2_pop 23 = .ok (.iload_n 1, 1) := by decide +kernel
theorem dX2_pop_24 : decode cX2_pop 24 = .ok (.iconst (-1), 1) := by decide +kernel
theorem dX2_pop_25 : decode cX2_pop 25 = .ok (.if_icmp .eq 18, 3) := by decide +kernel
theorem dX2_pop_28 : decode cX2_pop 28 = .ok (.aload_n 0, 1) := by decide +kernel
theorem dX2_pop_29 : decode cX2_pop 29 = .ok (.getfield 7, 3) := by decide +kernel
theorem dX2_pop_32 : decode cX2_pop 32 = .ok (.iload_n 2, 1) := by decide +kernel
theorem dX2_pop_33 : decode cX2_pop 33 = .ok (.iaload, 1) := by decide +kernel
theorem dX2_pop_34 : decode cX2_pop 34 = .ok (.aload_n 0, 1) := by decide +kernel
theorem dX2_pop_35 : decode cX2_pop 35 = .ok (.getfield 7, 3) := by decide +kernel
theorem dX2_pop_38 : decode cX2_pop 38 = .ok (.iload_n 1, 1) := by decide +kernel
theorem dX2_pop_39 : decode cX2_pop 39 = .ok (.iaload, 1) := by decide +kernel
theorem dX2_pop_40 : decode cX2_pop 40 = .ok (.if_icmp .gt 5, 3) := by decide +kernel
theorem dX2_pop_43 : decode cX2_pop 43 = .ok (.iload_n 2, 1) := by decide +kernel
theorem dX2_pop_44 : decode cX2_pop 44 = .ok (.istore_n 1, 1) := by decide +kernel
theorem dX2_pop_45 : decode cX2_pop 45 = .ok (.iinc 2 (-1), 3) := by decide +kernel
theorem dX2_pop_48 : decode cX2_pop 48 = .ok (.goto (-39), 3) := by decide +kernel
theorem dX2_pop_51 : decode cX2_pop 51 = .ok (.iload_n 1, 1) := by decide +kernel
theorem dX2_pop_52 : decode cX2_pop 52 = .ok (.iconst (-1), 1) := by decide +kernel
theorem dX2_pop_53 : decode cX2_pop 53 = .ok (.if_icmp .ne 5, 3) := by decide +kernel
theorem dX2_pop_56 : decode cX2_pop 56 = .ok (.iconst (-1), 1) := by decide +kernel
theorem dX2_pop_57 : decode cX2_pop 57 = .ok (.ireturn, 1) := by decide +kernel
theorem dX2_pop_58 : decode cX2_pop 58 = .ok (.aload_n 0, 1) := by decide +kernel
theorem dX2_pop_59 : decode cX2_pop 59 = .ok (.getfield 7, 3) := by decide +kernel
theorem dX2_pop_62 : decode cX2_pop 62 = .ok (.iload_n 1, 1) := by decide +kernel
theorem dX2_pop_63 : decode cX2_pop 63 = .ok (.iaload, 1) := by decide +kernel
theorem dX2_pop_64 : decode cX2_pop 64 = .ok (.aload_n 0, 1) := by decide +kernel
theorem dX2_pop_65 : decode cX2_pop 65 = .ok (.getfield 48, 3) := by decide +kernel
theorem dX2_pop_68 : decode cX2_pop 68 = .ok (.invokestatic 64, 3) := by decide +kernel
theorem dX2_pop_71 : decode cX2_pop 71 = .ok (.istore_n 2, 1) := by decide +kernel
theorem dX2_pop_72 : decode cX2_pop 72 = .ok (.iload_n 2, 1) := by decide +kernel
theorem dX2_pop_73 : decode cX2_pop 73 = .ok (.ifCond .le 70, 3) := by decide +kernel
theorem dX2_pop_76 : decode cX2_pop 76 = .ok (.iconst 0, 1) := by decide +kernel
theorem dX2_pop_77 : decode cX2_pop 77 = .ok (.istore_n 3, 1) := by decide +kernel
theorem dX2_pop_78 : decode cX2_pop 78 = .ok (.iload_n 3, 1) := by decide +kernel
theorem dX2_pop_79 : decode cX2_pop 79 = .ok (.aload_n 0, 1) := by decide +kernel
theorem dX2_pop_80 : decode cX2_pop 80 = .ok (.getfield 35, 3) := by decide +kernel
theorem dX2_pop_83 : decode cX2_pop 83 = .ok (.if_icmp .ge 50, 3) := by decide +kernel
theorem dX2_pop_86 : decode cX2_pop 86 = .ok (.aload_n 0, 1) := by decide +kernel
theorem dX2_pop_87 : decode cX2_pop 87 = .ok (.dup, 1) := by decide +kernel
theorem dX2_pop_88 : decode cX2_pop 88 = .ok (.getfield 55, 3) := by decide +kernel
theorem dX2_pop_91 : decode cX2_pop 91 = .ok (.aload_n 0, 1) := by decide +kernel
theorem dX2_pop_92 : decode cX2_pop 92 = .ok (.getfield 7, 3) := by decide +kernel
theorem dX2_pop_95 : decode cX2_pop 95 = .ok (.iload_n 3, 1) := by decide +kernel
theorem dX2_pop_96 : decode cX2_pop 96 = .ok (.iaload, 1) := by decide +kernel
theorem dX2_pop_97 : decode cX2_pop 97 = .ok (.iconst (-1), 1) := by decide +kernel
theorem dX2_pop_98 : decode cX2_pop 98 = .ok (.if_icmp .eq 24, 3) := by decide +kernel
theorem dX2_pop_101 : decode cX2_pop 101 = .ok (.aload_n 0, 1) := by decide +kernel
theorem dX2_pop_102 : decode cX2_pop 102 = .ok (.getfield 7, 3) := by decide +kernel
theorem dX2_pop_105 : decode cX2_pop 105 = .ok (.iload_n 3, 1) := by decide +kernel
theorem dX2_pop_106 : decode cX2_pop 106 = .ok (.iaload, 1) := by decide +kernel
theorem dX2_pop_107 : decode cX2_pop 107 = .ok (.aload_n 0, 1) := by decide +kernel
theorem dX2_pop_108 : decode cX2_pop 108 = .ok (.getfield 48, 3) := by decide +kernel
theorem dX2_pop_111 : decode cX2_pop 111 = .ok (.invokestatic 64, 3) := by decide +kernel
theorem dX2_pop_114 : decode cX2_pop 114 = .ok (.iload_n 2, 1) := by decide +kernel
theorem dX2_pop_115 : decode cX2_pop 115 = .ok (.if_icmp .ne 7, 3) := by decide +kernel
theorem dX2_pop_118 : decode cX2_pop 118 = .ok (.iconst 1, 1) := by decide +kernel
theorem dX2_pop_119 : decode cX2_pop 119 = .ok (.goto 4, 3) := by decide +kernel
theorem dX2_pop_122 : decode cX2_pop 122 = .ok (.iconst 0, 1) := by decide +kernel
theorem dX2_pop_123 : decode cX2_pop 123 = .ok (.iadd, 1) := by decide +kernel
theorem dX2_pop_124 : decode cX2_pop 124 = .ok (.putfield 55, 3) := by decide +kernel
theorem dX2_pop_127 : decode cX2_pop 127 = .ok (.iinc 3 1, 3) := by decide +kernel
theorem dX2_pop_130 : decode cX2_pop 130 = .ok (.goto (-52), 3) := by decide +kernel
theorem dX2_pop_133 : decode cX2_pop 133 = .ok (.aload_n 0, 1) := by decide +kernel
theorem dX2_pop_134 : decode cX2_pop 134 = .ok (.aload_n 0, 1) := by decide +kernel
theorem dX2_pop_135 : decode cX2_pop 135 = .ok (.getfield 7, 3) := by decide +kernel
theorem dX2_pop_138 : decode cX2_pop 138 = .ok (.iload_n 1, 1) := by decide +kernel
theorem dX2_pop_139 : decode cX2_pop 139 = .ok (.iaload, 1) := by decide +kernel
theorem dX2_pop_140 : decode cX2_pop 140 = .ok (.putfield 48, 3) := by decide +kernel
theorem dX2_pop_143 : decode cX2_pop 143 = .ok (.aload_n 0, 1) := by decide +kernel
theorem dX2_pop_144 : decode cX2_pop 144 = .ok (.getfield 7, 3) := by decide +kernel
theorem dX2_pop_147 : decode cX2_pop 147 = .ok (.iload_n 1, 1) := by decide +kernel
theorem dX2_pop_148 : decode cX2_pop 148 = .ok (.iconst (-1), 1) := by decide +kernel
theorem dX2_pop_149 : decode cX2_pop 149 = .ok (.iastore, 1) := by decide +kernel
theorem dX2_pop_150 : decode cX2_pop 150 = .ok (.iload_n 1, 1) := by decide +kernel
theorem dX2_pop_151 : decode cX2_pop 151 = .ok (.ireturn, 1) := by decide +kernel
theorem dX2_floor_0 : decode cX2_floor 0 = .ok (.aload_n 0, 1) := by decide +kernel
theorem dX2_floor_1 : decode cX2_floor 1 = .ok (.getfield 48, 3) := by decide +kernel
theorem dX2_floor_4 : decode cX2_floor 4 = .ok (.ireturn, 1) := by decide +kernel
theorem dX2_size_0 : decode cX2_size 0 = .ok (.iconst 0, 1) := by decide +kernel
theorem dX2_size_1 : decode cX2_size 1 = .ok (.istore_n 1, 1) := by decide +kernel
theorem dX2_size_2 : decode cX2_size 2 = .ok (.iconst 0, 1) := by decide +kernel
theorem dX2_size_3 : decode cX2_size 3 = .ok (.istore_n 2, 1) := by decide +kernel
theorem dX2_size_4 : decode cX2_size 4 = .ok (.iload_n 2, 1) := by decide +kernel
theorem dX2_size_5 : decode cX2_size 5 = .ok (.aload_n 0, 1) := by decide +kernel
theorem dX2_size_6 : decode cX2_size 6 = .ok (.getfield 35, 3) := by decide +kernel
theorem dX2_size_9 : decode cX2_size 9 = .ok (.if_icmp .ge 27, 3) := by decide +kernel
theorem dX2_size_12 : decode cX2_size 12 = .ok (.iload_n 1, 1) := by decide +kernel
theorem dX2_size_13 : decode cX2_size 13 = .ok (.aload_n 0, 1) := by decide +kernel
theorem dX2_size_14 : decode cX2_size 14 = .ok (.getfield 7, 3) := by decide +kernel
theorem dX2_size_17 : decode cX2_size 17 = .ok (.iload_n 2, 1) := by decide +kernel
theorem dX2_size_18 : decode cX2_size 18 = .ok (.iaload, 1) := by decide +kernel
theorem dX2_size_19 : decode cX2_size 19 = .ok (.iconst (-1), 1) := by decide +kernel
theorem dX2_size_20 : decode cX2_size 20 = .ok (.if_icmp .eq 7, 3) := by decide +kernel
theorem dX2_size_23 : decode cX2_size 23 = .ok (.iconst 1, 1) := by decide +kernel
theorem dX2_size_24 : decode cX2_size 24 = .ok (.goto 4, 3) := by decide +kernel
theorem dX2_size_27 : decode cX2_size 27 = .ok (.iconst 0, 1) := by decide +kernel
theorem dX2_size_28 : decode cX2_size 28 = .ok (.iadd, 1) := by decide +kernel
theorem dX2_size_29 : decode cX2_size 29 = .ok (.istore_n 1, 1) := by decide +kernel
theorem dX2_size_30 : decode cX2_size 30 = .ok (.iinc 2 1, 3) := by decide +kernel
theorem dX2_size_33 : decode cX2_size 33 = .ok (.goto (-29), 3) := by decide +kernel
theorem dX2_size_36 : decode cX2_size 36 = .ok (.iload_n 1, 1) := by decide +kernel
theorem dX2_size_37 : decode cX2_size 37 = .ok (.ireturn, 1) := by decide +kernel
theorem dX2_key_0 : decode cX2_key 0 = .ok (.aload_n 0, 1) := by decide +kernel
theorem dX2_key_1 : decode cX2_key 1 = .ok (.iload_n 1, 1) := by decide +kernel
theorem dX2_key_2 : decode cX2_key 2 = .ok (.invokevirtual 61, 3) := by decide +kernel
theorem dX2_key_5 : decode cX2_key 5 = .ok (.ifCond .eq 12, 3) := by decide +kernel
theorem dX2_key_8 : decode cX2_key 8 = .ok (.aload_n 0, 1) := by decide +kernel
theorem dX2_key_9 : decode cX2_key 9 = .ok (.getfield 7, 3) := by decide +kernel
theorem dX2_key_12 : decode cX2_key 12 = .ok (.iload_n 1, 1) := by decide +kernel
theorem dX2_key_13 : decode cX2_key 13 = .ok (.iaload, 1) := by decide +kernel
theorem dX2_key_14 : decode cX2_key 14 = .ok (.goto 4, 3) := by decide +kernel
theorem dX2_key_17 : decode cX2_key 17 = .ok (.iconst (-1), 1) := by decide +kernel
theorem dX2_key_18 : decode cX2_key 18 = .ok (.ireturn, 1) := by decide +kernel
theorem dX2_bucket_0 : decode cX2_bucket 0 = .ok (.aload_n 0, 1) := by decide +kernel
theorem dX2_bucket_1 : decode cX2_bucket 1 = .ok (.iload_n 1, 1) := by decide +kernel
theorem dX2_bucket_2 : decode cX2_bucket 2 = .ok (.invokevirtual 61, 3) := by decide +kernel
theorem dX2_bucket_5 : decode cX2_bucket 5 = .ok (.ifCond .eq 19, 3) := by decide +kernel
theorem dX2_bucket_8 : decode cX2_bucket 8 = .ok (.aload_n 0, 1) := by decide +kernel
theorem dX2_bucket_9 : decode cX2_bucket 9 = .ok (.getfield 7, 3) := by decide +kernel
theorem dX2_bucket_12 : decode cX2_bucket 12 = .ok (.iload_n 1, 1) := by decide +kernel
theorem dX2_bucket_13 : decode cX2_bucket 13 = .ok (.iaload, 1) := by decide +kernel
theorem dX2_bucket_14 : decode cX2_bucket 14 = .ok (.aload_n 0, 1) := by decide +kernel
theorem dX2_bucket_15 : decode cX2_bucket 15 = .ok (.getfield 48, 3) := by decide +kernel
theorem dX2_bucket_18 : decode cX2_bucket 18 = .ok (.invokestatic 64, 3) := by decide +kernel
theorem dX2_bucket_21 : decode cX2_bucket 21 = .ok (.goto 4, 3) := by decide +kernel
theorem dX2_bucket_24 : decode cX2_bucket 24 = .ok (.iconst (-1), 1) := by decide +kernel
theorem dX2_bucket_25 : decode cX2_bucket 25 = .ok (.ireturn, 1) := by decide +kernel
theorem dX2_many_0 : decode cX2_many 0 = .ok (.iload_n 1, 1) := by decide +kernel
theorem dX2_many_1 : decode cX2_many 1 = .ok (.ifCond .lt 9, 3) := by decide +kernel
theorem dX2_many_4 : decode cX2_many 4 = .ok (.iload_n 1, 1) := by decide +kernel
theorem dX2_many_5 : decode cX2_many 5 = .ok (.bipush 31, 2) := by decide +kernel
theorem dX2_many_7 : decode cX2_many 7 = .ok (.if_icmp .le 5, 3) := by decide +kernel
theorem dX2_many_10 : decode cX2_many 10 = .ok (.iconst (-1), 1) := by decide +kernel
theorem dX2_many_11 : decode cX2_many 11 = .ok (.ireturn, 1) := by decide +kernel
theorem dX2_many_12 : decode cX2_many 12 = .ok (.iconst 0, 1) := by decide +kernel
theorem dX2_many_13 : decode cX2_many 13 = .ok (.istore_n 2, 1) := by decide +kernel
theorem dX2_many_14 : decode cX2_many 14 = .ok (.iconst 0, 1) := by decide +kernel
theorem dX2_many_15 : decode cX2_many 15 = .ok (.istore_n 3, 1) := by decide +kernel
theorem dX2_many_16 : decode cX2_many 16 = .ok (.iload_n 3, 1) := by decide +kernel
theorem dX2_many_17 : decode cX2_many 17 = .ok (.aload_n 0, 1) := by decide +kernel
theorem dX2_many_18 : decode cX2_many 18 = .ok (.getfield 35, 3) := by decide +kernel
theorem dX2_many_21 : decode cX2_many 21 = .ok (.if_icmp .ge 44, 3) := by decide +kernel
theorem dX2_many_24 : decode cX2_many 24 = .ok (.iload_n 2, 1) := by decide +kernel
theorem dX2_many_25 : decode cX2_many 25 = .ok (.aload_n 0, 1) := by decide +kernel
theorem dX2_many_26 : decode cX2_many 26 = .ok (.getfield 7, 3) := by decide +kernel
theorem dX2_many_29 : decode cX2_many 29 = .ok (.iload_n 3, 1) := by decide +kernel
theorem dX2_many_30 : decode cX2_many 30 = .ok (.iaload, 1) := by decide +kernel
theorem dX2_many_31 : decode cX2_many 31 = .ok (.iconst (-1), 1) := by decide +kernel
theorem dX2_many_32 : decode cX2_many 32 = .ok (.if_icmp .eq 24, 3) := by decide +kernel
theorem dX2_many_35 : decode cX2_many 35 = .ok (.aload_n 0, 1) := by decide +kernel
theorem dX2_many_36 : decode cX2_many 36 = .ok (.getfield 7, 3) := by decide +kernel
theorem dX2_many_39 : decode cX2_many 39 = .ok (.iload_n 3, 1) := by decide +kernel
theorem dX2_many_40 : decode cX2_many 40 = .ok (.iaload, 1) := by decide +kernel
theorem dX2_many_41 : decode cX2_many 41 = .ok (.aload_n 0, 1) := by decide +kernel
theorem dX2_many_42 : decode cX2_many 42 = .ok (.getfield 48, 3) := by decide +kernel
theorem dX2_many_45 : decode cX2_many 45 = .ok (.invokestatic 64, 3) := by decide +kernel
theorem dX2_many_48 : decode cX2_many 48 = .ok (.iload_n 1, 1) := by decide +kernel
theorem dX2_many_49 : decode cX2_many 49 = .ok (.if_icmp .ne 7, 3) := by decide +kernel
theorem dX2_many_52 : decode cX2_many 52 = .ok (.iconst 1, 1) := by decide +kernel
theorem dX2_many_53 : decode cX2_many 53 = .ok (.goto 4, 3) := by decide +kernel
theorem dX2_many_56 : decode cX2_many 56 = .ok (.iconst 0, 1) := by decide +kernel
theorem dX2_many_57 : decode cX2_many 57 = .ok (.iadd, 1) := by decide +kernel
theorem dX2_many_58 : decode cX2_many 58 = .ok (.istore_n 2, 1) := by decide +kernel
theorem dX2_many_59 : decode cX2_many 59 = .ok (.iinc 3 1, 3) := by decide +kernel
theorem dX2_many_62 : decode cX2_many 62 = .ok (.goto (-46), 3) := by decide +kernel
theorem dX2_many_65 : decode cX2_many 65 = .ok (.iload_n 2, 1) := by decide +kernel
theorem dX2_many_66 : decode cX2_many 66 = .ok (.ireturn, 1) := by decide +kernel
theorem dX2_placed_0 : decode cX2_placed 0 = .ok (.aload_n 0, 1) := by decide +kernel
theorem dX2_placed_1 : decode cX2_placed 1 = .ok (.getfield 55, 3) := by decide +kernel
theorem dX2_placed_4 : decode cX2_placed 4 = .ok (.ireturn, 1) := by decide +kernel
theorem dX2_arc_0 : decode cX2_arc 0 = .ok (.aload_n 0, 1) := by decide +kernel
theorem dX2_arc_1 : decode cX2_arc 1 = .ok (.iload_n 1, 1) := by decide +kernel
theorem dX2_arc_2 : decode cX2_arc 2 = .ok (.invokevirtual 51, 3) := by decide +kernel
theorem dX2_arc_5 : decode cX2_arc 5 = .ok (.ifCond .eq 11, 3) := by decide +kernel
theorem dX2_arc_8 : decode cX2_arc 8 = .ok (.aload_n 0, 1) := by decide +kernel
theorem dX2_arc_9 : decode cX2_arc 9 = .ok (.iload_n 2, 1) := by decide +kernel
theorem dX2_arc_10 : decode cX2_arc 10 = .ok (.invokevirtual 51, 3) := by decide +kernel
theorem dX2_arc_13 : decode cX2_arc 13 = .ok (.ifCond .ne 5, 3) := by decide +kernel
theorem dX2_arc_16 : decode cX2_arc 16 = .ok (.iconst (-1), 1) := by decide +kernel
theorem dX2_arc_17 : decode cX2_arc 17 = .ok (.ireturn, 1) := by decide +kernel
theorem dX2_arc_18 : decode cX2_arc 18 = .ok (.iload_n 3, 1) := by decide +kernel
theorem dX2_arc_19 : decode cX2_arc 19 = .ok (.ifCond .lt 11, 3) := by decide +kernel
theorem dX2_arc_22 : decode cX2_arc 22 = .ok (.iload_n 3, 1) := by decide +kernel
theorem dX2_arc_23 : decode cX2_arc 23 = .ok (.aload_n 0, 1) := by decide +kernel
theorem dX2_arc_24 : decode cX2_arc 24 = .ok (.getfield 42, 3) := by decide +kernel
theorem dX2_arc_27 : decode cX2_arc 27 = .ok (.if_icmp .le 6, 3) := by decide +kernel
theorem dX2_arc_30 : decode cX2_arc 30 = .ok (.bipush (-2), 2) := by decide +kernel
theorem dX2_arc_32 : decode cX2_arc 32 = .ok (.ireturn, 1) := by decide +kernel
theorem dX2_arc_33 : decode cX2_arc 33 = .ok (.aload_n 0, 1) := by decide +kernel
theorem dX2_arc_34 : decode cX2_arc 34 = .ok (.getfield 68, 3) := by decide +kernel
theorem dX2_arc_37 : decode cX2_arc 37 = .ok (.aload_n 0, 1) := by decide +kernel
theorem dX2_arc_38 : decode cX2_arc 38 = .ok (.getfield 39, 3) := by decide +kernel
theorem dX2_arc_41 : decode cX2_arc 41 = .ok (.if_icmp .ne 6, 3) := by decide +kernel
theorem dX2_arc_44 : decode cX2_arc 44 = .ok (.bipush (-3), 2) := by decide +kernel
theorem dX2_arc_46 : decode cX2_arc 46 = .ok (.ireturn, 1) := by decide +kernel
theorem dX2_arc_47 : decode cX2_arc 47 = .ok (.aload_n 0, 1) := by decide +kernel
theorem dX2_arc_48 : decode cX2_arc 48 = .ok (.getfield 13, 3) := by decide +kernel
theorem dX2_arc_51 : decode cX2_arc 51 = .ok (.aload_n 0, 1) := by decide +kernel
theorem dX2_arc_52 : decode cX2_arc 52 = .ok (.getfield 68, 3) := by decide +kernel
theorem dX2_arc_55 : decode cX2_arc 55 = .ok (.iload_n 1, 1) := by decide +kernel
theorem dX2_arc_56 : decode cX2_arc 56 = .ok (.iastore, 1) := by decide +kernel
theorem dX2_arc_57 : decode cX2_arc 57 = .ok (.aload_n 0, 1) := by decide +kernel
theorem dX2_arc_58 : decode cX2_arc 58 = .ok (.getfield 16, 3) := by decide +kernel
theorem dX2_arc_61 : decode cX2_arc 61 = .ok (.aload_n 0, 1) := by decide +kernel
theorem dX2_arc_62 : decode cX2_arc 62 = .ok (.getfield 68, 3) := by decide +kernel
theorem dX2_arc_65 : decode cX2_arc 65 = .ok (.iload_n 2, 1) := by decide +kernel
theorem dX2_arc_66 : decode cX2_arc 66 = .ok (.iastore, 1) := by decide +kernel
theorem dX2_arc_67 : decode cX2_arc 67 = .ok (.aload_n 0, 1) := by decide +kernel
theorem dX2_arc_68 : decode cX2_arc 68 = .ok (.getfield 19, 3) := by decide +kernel
theorem dX2_arc_71 : decode cX2_arc 71 = .ok (.aload_n 0, 1) := by decide +kernel
theorem dX2_arc_72 : decode cX2_arc 72 = .ok (.getfield 68, 3) := by decide +kernel
theorem dX2_arc_75 : decode cX2_arc 75 = .ok (.iload_n 3, 1) := by decide +kernel
theorem dX2_arc_76 : decode cX2_arc 76 = .ok (.iastore, 1) := by decide +kernel
theorem dX2_arc_77 : decode cX2_arc 77 = .ok (.aload_n 0, 1) := by decide +kernel
theorem dX2_arc_78 : decode cX2_arc 78 = .ok (.dup, 1) := by decide +kernel
theorem dX2_arc_79 : decode cX2_arc 79 = .ok (.getfield 68, 3) := by decide +kernel
theorem dX2_arc_82 : decode cX2_arc 82 = .ok (.iconst 1, 1) := by decide +kernel
theorem dX2_arc_83 : decode cX2_arc 83 = .ok (.iadd, 1) := by decide +kernel
theorem dX2_arc_84 : decode cX2_arc 84 = .ok (.putfield 68, 3) := by decide +kernel
theorem dX2_arc_87 : decode cX2_arc 87 = .ok (.aload_n 0, 1) := by decide +kernel
theorem dX2_arc_88 : decode cX2_arc 88 = .ok (.iconst 0, 1) := by decide +kernel
theorem dX2_arc_89 : decode cX2_arc 89 = .ok (.putfield 71, 3) := by decide +kernel
theorem dX2_arc_92 : decode cX2_arc 92 = .ok (.iconst 0, 1) := by decide +kernel
theorem dX2_arc_93 : decode cX2_arc 93 = .ok (.ireturn, 1) := by decide +kernel
theorem dX2_reach_0 : decode cX2_reach 0 = .ok (.aload_n 0, 1) := by decide +kernel
theorem dX2_reach_1 : decode cX2_reach 1 = .ok (.getfield 22, 3) := by decide +kernel
theorem dX2_reach_4 : decode cX2_reach 4 = .ok (.iload_n 1, 1) := by decide +kernel
theorem dX2_reach_5 : decode cX2_reach 5 = .ok (.iaload, 1) := by decide +kernel
theorem dX2_reach_6 : decode cX2_reach 6 = .ok (.i2l, 1) := by decide +kernel
theorem dX2_reach_7 : decode cX2_reach 7 = .ok (.iload_n 3, 1) := by decide +kernel
theorem dX2_reach_8 : decode cX2_reach 8 = .ok (.i2l, 1) := by decide +kernel
theorem dX2_reach_9 : decode cX2_reach 9 = .ok (.ladd, 1) := by decide +kernel
theorem dX2_reach_10 : decode cX2_reach 10 = .ok (.lstore 4, 2) := by decide +kernel
theorem dX2_reach_12 : decode cX2_reach 12 = .ok (.aload_n 0, 1) := by decide +kernel
theorem dX2_reach_13 : decode cX2_reach 13 = .ok (.getfield 28, 3) := by decide +kernel
theorem dX2_reach_16 : decode cX2_reach 16 = .ok (.iload_n 2, 1) := by decide +kernel
theorem dX2_reach_17 : decode cX2_reach 17 = .ok (.baload, 1) := by decide +kernel
theorem dX2_reach_18 : decode cX2_reach 18 = .ok (.ifCond .ne 12, 3) := by decide +kernel
theorem dX2_reach_21 : decode cX2_reach 21 = .ok (.lload 4, 2) := by decide +kernel
theorem dX2_reach_23 : decode cX2_reach 23 = .ok (.ldc2_w 75, 3) := by decide +kernel
theorem dX2_reach_26 : decode cX2_reach 26 = .ok (.lcmp, 1) := by decide +kernel
theorem dX2_reach_27 : decode cX2_reach 27 = .ok (.ifCond .le 4, 3) := by decide +kernel
theorem dX2_reach_30 : decode cX2_reach 30 = .ok (.return_, 1) := by decide +kernel
theorem dX2_reach_31 : decode cX2_reach 31 = .ok (.aload_n 0, 1) := by decide +kernel
theorem dX2_reach_32 : decode cX2_reach 32 = .ok (.getfield 7, 3) := by decide +kernel
theorem dX2_reach_35 : decode cX2_reach 35 = .ok (.iload_n 2, 1) := by decide +kernel
theorem dX2_reach_36 : decode cX2_reach 36 = .ok (.iaload, 1) := by decide +kernel
theorem dX2_reach_37 : decode cX2_reach 37 = .ok (.iconst (-1), 1) := by decide +kernel
theorem dX2_reach_38 : decode cX2_reach 38 = .ok (.if_icmp .ne 22, 3) := by decide +kernel
theorem dX2_reach_41 : decode cX2_reach 41 = .ok (.aload_n 0, 1) := by decide +kernel
theorem dX2_reach_42 : decode cX2_reach 42 = .ok (.iload_n 2, 1) := by decide +kernel
theorem dX2_reach_43 : decode cX2_reach 43 = .ok (.lload 4, 2) := by decide +kernel
theorem dX2_reach_45 : decode cX2_reach 45 = .ok (.l2i, 1) := by decide +kernel
theorem dX2_reach_46 : decode cX2_reach 46 = .ok (.invokevirtual 77, 3) := by decide +kernel
theorem dX2_reach_49 : decode cX2_reach 49 = .ok (.pop, 1) := by decide +kernel
theorem dX2_reach_50 : decode cX2_reach 50 = .ok (.aload_n 0, 1) := by decide +kernel
theorem dX2_reach_51 : decode cX2_reach 51 = .ok (.getfield 25, 3) := by decide +kernel
theorem dX2_reach_54 : decode cX2_reach 54 = .ok (.iload_n 2, 1) := by decide +kernel
theorem dX2_reach_55 : decode cX2_reach 55 = .ok (.iload_n 1, 1) := by decide +kernel
theorem dX2_reach_56 : decode cX2_reach 56 = .ok (.iastore, 1) := by decide +kernel
theorem dX2_reach_57 : decode cX2_reach 57 = .ok (.goto 32, 3) := by decide +kernel
theorem dX2_reach_60 : decode cX2_reach 60 = .ok (.lload 4, 2) := by decide +kernel
theorem dX2_reach_62 : decode cX2_reach 62 = .ok (.aload_n 0, 1) := by decide +kernel
theorem dX2_reach_63 : decode cX2_reach 63 = .ok (.getfield 7, 3) := by decide +kernel
theorem dX2_reach_66 : decode cX2_reach 66 = .ok (.iload_n 2, 1) := by decide +kernel
theorem dX2_reach_67 : decode cX2_reach 67 = .ok (.iaload, 1) := by decide +kernel
theorem dX2_reach_68 : decode cX2_reach 68 = .ok (.i2l, 1) := by decide +kernel
theorem dX2_reach_69 : decode cX2_reach 69 = .ok (.lcmp, 1) := by decide +kernel
theorem dX2_reach_70 : decode cX2_reach 70 = .ok (.ifCond .ge 19, 3) := by decide +kernel
theorem dX2_reach_73 : decode cX2_reach 73 = .ok (.aload_n 0, 1) := by decide +kernel
theorem dX2_reach_74 : decode cX2_reach 74 = .ok (.iload_n 2, 1) := by decide +kernel
theorem dX2_reach_75 : decode cX2_reach 75 = .ok (.lload 4, 2) := by decide +kernel
theorem dX2_reach_77 : decode cX2_reach 77 = .ok (.l2i, 1) := by decide +kernel
theorem dX2_reach_78 : decode cX2_reach 78 = .ok (.invokevirtual 80, 3) := by decide +kernel
theorem dX2_reach_81 : decode cX2_reach 81 = .ok (.pop, 1) := by decide +kernel
theorem dX2_reach_82 : decode cX2_reach 82 = .ok (.aload_n 0, 1) := by decide +kernel
theorem dX2_reach_83 : decode cX2_reach 83 = .ok (.getfield 25, 3) := by decide +kernel
theorem dX2_reach_86 : decode cX2_reach 86 = .ok (.iload_n 2, 1) := by decide +kernel
theorem dX2_reach_87 : decode cX2_reach 87 = .ok (.iload_n 1, 1) := by decide +kernel
theorem dX2_reach_88 : decode cX2_reach 88 = .ok (.iastore, 1) := by decide +kernel
theorem dX2_reach_89 : decode cX2_reach 89 = .ok (.return_, 1) := by decide +kernel
theorem dX2_spread_0 : decode cX2_spread 0 = .ok (.iconst 0, 1) := by decide +kernel
theorem dX2_spread_1 : decode cX2_spread 1 = .ok (.istore_n 2, 1) := by decide +kernel
theorem dX2_spread_2 : decode cX2_spread 2 = .ok (.iload_n 2, 1) := by decide +kernel
theorem dX2_spread_3 : decode cX2_spread 3 = .ok (.bipush 40, 2) := by decide +kernel
theorem dX2_spread_5 : decode cX2_spread 5 = .ok (.if_icmp .ge 25, 3) := by decide +kernel
theorem dX2_spread_8 : decode cX2_spread 8 = .ok (.aload_n 0, 1) := by decide +kernel
theorem dX2_spread_9 : decode cX2_spread 9 = .ok (.getfield 32, 3) := by decide +kernel
theorem dX2_spread_12 : decode cX2_spread 12 = .ok (.iload_n 2, 1) := by decide +kernel
theorem dX2_spread_13 : decode cX2_spread 13 = .ok (.iload_n 2, 1) := by decide +kernel
theorem dX2_spread_14 : decode cX2_spread 14 = .ok (.iload_n 1, 1) := by decide +kernel
theorem dX2_spread_15 : decode cX2_spread 15 = .ok (.if_icmp .ne 7, 3) := by decide +kernel
theorem dX2_spread_18 : decode cX2_spread 18 = .ok (.iconst 1, 1) := by decide +kernel
theorem dX2_spread_19 : decode cX2_spread 19 = .ok (.goto 4, 3) := by decide +kernel
theorem dX2_spread_22 : decode cX2_spread 22 = .ok (.iconst 0, 1) := by decide +kernel
theorem dX2_spread_23 : decode cX2_spread 23 = .ok (.bastore, 1) := by decide +kernel
theorem dX2_spread_24 : decode cX2_spread 24 = .ok (.iinc 2 1, 3) := by decide +kernel
theorem dX2_spread_27 : decode cX2_spread 27 = .ok (.goto (-25), 3) := by decide +kernel
theorem dX2_spread_30 : decode cX2_spread 30 = .ok (.iconst 0, 1) := by decide +kernel
theorem dX2_spread_31 : decode cX2_spread 31 = .ok (.istore_n 2, 1) := by decide +kernel
theorem dX2_spread_32 : decode cX2_spread 32 = .ok (.iload_n 2, 1) := by decide +kernel
theorem dX2_spread_33 : decode cX2_spread 33 = .ok (.aload_n 0, 1) := by decide +kernel
theorem dX2_spread_34 : decode cX2_spread 34 = .ok (.getfield 35, 3) := by decide +kernel
theorem dX2_spread_37 : decode cX2_spread 37 = .ok (.if_icmp .ge 69, 3) := by decide +kernel
theorem dX2_spread_40 : decode cX2_spread 40 = .ok (.iconst 0, 1) := by decide +kernel
theorem dX2_spread_41 : decode cX2_spread 41 = .ok (.istore_n 3, 1) := by decide +kernel
theorem dX2_spread_42 : decode cX2_spread 42 = .ok (.iload_n 3, 1) := by decide +kernel
theorem dX2_spread_43 : decode cX2_spread 43 = .ok (.aload_n 0, 1) := by decide +kernel
theorem dX2_spread_44 : decode cX2_spread 44 = .ok (.getfield 68, 3) := by decide +kernel
theorem dX2_spread_47 : decode cX2_spread 47 = .ok (.if_icmp .ge 53, 3) := by decide +kernel
theorem dX2_spread_50 : decode cX2_spread 50 = .ok (.aload_n 0, 1) := by decide +kernel
theorem dX2_spread_51 : decode cX2_spread 51 = .ok (.getfield 32, 3) := by decide +kernel
theorem dX2_spread_54 : decode cX2_spread 54 = .ok (.aload_n 0, 1) := by decide +kernel
theorem dX2_spread_55 : decode cX2_spread 55 = .ok (.getfield 16, 3) := by decide +kernel
theorem dX2_spread_58 : decode cX2_spread 58 = .ok (.iload_n 3, 1) := by decide +kernel
theorem dX2_spread_59 : decode cX2_spread 59 = .ok (.iaload, 1) := by decide +kernel
theorem dX2_spread_60 : decode cX2_spread 60 = .ok (.aload_n 0, 1) := by decide +kernel
theorem dX2_spread_61 : decode cX2_spread 61 = .ok (.getfield 32, 3) := by decide +kernel
theorem dX2_spread_64 : decode cX2_spread 64 = .ok (.aload_n 0, 1) := by decide +kernel
theorem dX2_spread_65 : decode cX2_spread 65 = .ok (.getfield 16, 3) := by decide +kernel
theorem dX2_spread_68 : decode cX2_spread 68 = .ok (.iload_n 3, 1) := by decide +kernel
theorem dX2_spread_69 : decode cX2_spread 69 = .ok (.iaload, 1) := by decide +kernel
theorem dX2_spread_70 : decode cX2_spread 70 = .ok (.baload, 1) := by decide +kernel
theorem dX2_spread_71 : decode cX2_spread 71 = .ok (.ifCond .ne 17, 3) := by decide +kernel
theorem dX2_spread_74 : decode cX2_spread 74 = .ok (.aload_n 0, 1) := by decide +kernel
theorem dX2_spread_75 : decode cX2_spread 75 = .ok (.getfield 32, 3) := by decide +kernel
theorem dX2_spread_78 : decode cX2_spread 78 = .ok (.aload_n 0, 1) := by decide +kernel
theorem dX2_spread_79 : decode cX2_spread 79 = .ok (.getfield 13, 3) := by decide +kernel
theorem dX2_spread_82 : decode cX2_spread 82 = .ok (.iload_n 3, 1) := by decide +kernel
theorem dX2_spread_83 : decode cX2_spread 83 = .ok (.iaload, 1) := by decide +kernel
theorem dX2_spread_84 : decode cX2_spread 84 = .ok (.baload, 1) := by decide +kernel
theorem dX2_spread_85 : decode cX2_spread 85 = .ok (.ifCond .eq 7, 3) := by decide +kernel
theorem dX2_spread_88 : decode cX2_spread 88 = .ok (.iconst 1, 1) := by decide +kernel
theorem dX2_spread_89 : decode cX2_spread 89 = .ok (.goto 4, 3) := by decide +kernel
theorem dX2_spread_92 : decode cX2_spread 92 = .ok (.iconst 0, 1) := by decide +kernel
theorem dX2_spread_93 : decode cX2_spread 93 = .ok (.bastore, 1) := by decide +kernel
theorem dX2_spread_94 : decode cX2_spread 94 = .ok (.iinc 3 1, 3) := by decide +kernel
theorem dX2_spread_97 : decode cX2_spread 97 = .ok (.goto (-55), 3) := by decide +kernel
theorem dX2_spread_100 : decode cX2_spread 100 = .ok (.iinc 2 1, 3) := by decide +kernel
theorem dX2_spread_103 : decode cX2_spread 103 = .ok (.goto (-71), 3) := by decide +kernel
theorem dX2_spread_106 : decode cX2_spread 106 = .ok (.return_, 1) := by decide +kernel
theorem dX2_run_0 : decode cX2_run 0 = .ok (.aload_n 0, 1) := by decide +kernel
theorem dX2_run_1 : decode cX2_run 1 = .ok (.iload_n 1, 1) := by decide +kernel
theorem dX2_run_2 : decode cX2_run 2 = .ok (.invokevirtual 51, 3) := by decide +kernel
theorem dX2_run_5 : decode cX2_run 5 = .ok (.ifCond .ne 5, 3) := by decide +kernel
theorem dX2_run_8 : decode cX2_run 8 = .ok (.iconst (-1), 1) := by decide +kernel
theorem dX2_run_9 : decode cX2_run 9 = .ok (.ireturn, 1) := by decide +kernel
theorem dX2_run_10 : decode cX2_run 10 = .ok (.aload_n 0, 1) := by decide +kernel
theorem dX2_run_11 : decode cX2_run 11 = .ok (.invokevirtual 45, 3) := by decide +kernel
theorem dX2_run_14 : decode cX2_run 14 = .ok (.iconst 0, 1) := by decide +kernel
theorem dX2_run_15 : decode cX2_run 15 = .ok (.istore_n 2, 1) := by decide +kernel
theorem dX2_run_16 : decode cX2_run 16 = .ok (.iload_n 2, 1) := by decide +kernel
theorem dX2_run_17 : decode cX2_run 17 = .ok (.bipush 40, 2) := by decide +kernel
theorem dX2_run_19 : decode cX2_run 19 = .ok (.if_icmp .ge 23, 3) := by decide +kernel
theorem dX2_run_22 : decode cX2_run 22 = .ok (.aload_n 0, 1) := by decide +kernel
theorem dX2_run_23 : decode cX2_run 23 = .ok (.getfield 28, 3) := by decide +kernel
theorem dX2_run_26 : decode cX2_run 26 = .ok (.iload_n 2, 1) := by decide +kernel
theorem dX2_run_27 : decode cX2_run 27 = .ok (.iconst 0, 1) := by decide +kernel
theorem dX2_run_28 : decode cX2_run 28 = .ok (.bastore, 1) := by decide +kernel
theorem dX2_run_29 : decode cX2_run 29 = .ok (.aload_n 0, 1) := by decide +kernel
theorem dX2_run_30 : decode cX2_run 30 = .ok (.getfield 25, 3) := by decide +kernel
theorem dX2_run_33 : decode cX2_run 33 = .ok (.iload_n 2, 1) := by decide +kernel
theorem dX2_run_34 : decode cX2_run 34 = .ok (.iconst (-1), 1) := by decide +kernel
theorem dX2_run_35 : decode cX2_run 35 = .ok (.iastore, 1) := by decide +kernel
theorem dX2_run_36 : decode cX2_run 36 = .ok (.iinc 2 1, 3) := by decide +kernel
theorem dX2_run_39 : decode cX2_run 39 = .ok (.goto (-23), 3) := by decide +kernel
theorem dX2_run_42 : decode cX2_run 42 = .ok (.aload_n 0, 1) := by decide +kernel
theorem dX2_run_43 : decode cX2_run 43 = .ok (.iload_n 1, 1) := by decide +kernel
theorem dX2_run_44 : decode cX2_run 44 = .ok (.iconst 0, 1) := by decide +kernel
theorem dX2_run_45 : decode cX2_run 45 = .ok (.invokevirtual 77, 3) := by decide +kernel
theorem dX2_run_48 : decode cX2_run 48 = .ok (.pop, 1) := by decide +kernel
theorem dX2_run_49 : decode cX2_run 49 = .ok (.aload_n 0, 1) := by decide +kernel
theorem dX2_run_50 : decode cX2_run 50 = .ok (.invokevirtual 83, 3) := by decide +kernel
theorem dX2_run_53 : decode cX2_run 53 = .ok (.ifCond .le 124, 3) := by decide +kernel
theorem dX2_run_56 : decode cX2_run 56 = .ok (.ldc 87, 2) := by decide +kernel
theorem dX2_run_58 : decode cX2_run 58 = .ok (.istore_n 2, 1) := by decide +kernel
theorem dX2_run_59 : decode cX2_run 59 = .ok (.iconst 0, 1) := by decide +kernel
theorem dX2_run_60 : decode cX2_run 60 = .ok (.istore_n 3, 1) := by decide +kernel
theorem dX2_run_61 : decode cX2_run 61 = .ok (.iload_n 3, 1) := by decide +kernel
theorem dX2_run_62 : decode cX2_run 62 = .ok (.aload_n 0, 1) := by decide +kernel
theorem dX2_run_63 : decode cX2_run 63 = .ok (.getfield 35, 3) := by decide +kernel
theorem dX2_run_66 : decode cX2_run 66 = .ok (.if_icmp .ge 40, 3) := by decide +kernel
theorem dX2_run_69 : decode cX2_run 69 = .ok (.aload_n 0, 1) := by decide +kernel
theorem dX2_run_70 : decode cX2_run 70 = .ok (.getfield 7, 3) := by decide +kernel
theorem dX2_run_73 : decode cX2_run 73 = .ok (.iload_n 3, 1) := by decide +kernel
theorem dX2_run_74 : decode cX2_run 74 = .ok (.iaload, 1) := by decide +kernel
theorem dX2_run_75 : decode cX2_run 75 = .ok (.iconst (-1), 1) := by decide +kernel
theorem dX2_run_76 : decode cX2_run 76 = .ok (.if_icmp .eq 22, 3) := by decide +kernel
theorem dX2_run_79 : decode cX2_run 79 = .ok (.aload_n 0, 1) := by decide +kernel
theorem dX2_run_80 : decode cX2_run 80 = .ok (.getfield 7, 3) := by decide +kernel
theorem dX2_run_83 : decode cX2_run 83 = .ok (.iload_n 3, 1) := by decide +kernel
theorem dX2_run_84 : decode cX2_run 84 = .ok (.iaload, 1) := by decide +kernel
theorem dX2_run_85 : decode cX2_run 85 = .ok (.iload_n 2, 1) := by decide +kernel
theorem dX2_run_86 : decode cX2_run 86 = .ok (.if_icmp .ge 12, 3) := by decide +kernel
theorem dX2_run_89 : decode cX2_run 89 = .ok (.aload_n 0, 1) := by decide +kernel
theorem dX2_run_90 : decode cX2_run 90 = .ok (.getfield 7, 3) := by decide +kernel
theorem dX2_run_93 : decode cX2_run 93 = .ok (.iload_n 3, 1) := by decide +kernel
theorem dX2_run_94 : decode cX2_run 94 = .ok (.iaload, 1) := by decide +kernel
theorem dX2_run_95 : decode cX2_run 95 = .ok (.goto 4, 3) := by decide +kernel
theorem dX2_run_98 : decode cX2_run 98 = .ok (.iload_n 2, 1) := by decide +kernel
theorem dX2_run_99 : decode cX2_run 99 = .ok (.istore_n 2, 1) := by decide +kernel
theorem dX2_run_100 : decode cX2_run 100 = .ok (.iinc 3 1, 3) := by decide +kernel
theorem dX2_run_103 : decode cX2_run 103 = .ok (.goto (-42), 3) := by decide +kernel
theorem dX2_run_106 : decode cX2_run 106 = .ok (.aload_n 0, 1) := by decide +kernel
theorem dX2_run_107 : decode cX2_run 107 = .ok (.invokevirtual 88, 3) := by decide +kernel
theorem dX2_run_110 : decode cX2_run 110 = .ok (.istore_n 3, 1) := by decide +kernel
theorem dX2_run_111 : decode cX2_run 111 = .ok (.aload_n 0, 1) := by decide +kernel
theorem dX2_run_112 : decode cX2_run 112 = .ok (.getfield 22, 3) := by decide +kernel
theorem dX2_run_115 : decode cX2_run 115 = .ok (.iload_n 3, 1) := by decide +kernel
theorem dX2_run_116 : decode cX2_run 116 = .ok (.iload_n 2, 1) := by decide +kernel
theorem dX2_run_117 : decode cX2_run 117 = .ok (.iastore, 1) := by decide +kernel
theorem dX2_run_118 : decode cX2_run 118 = .ok (.aload_n 0, 1) := by decide +kernel
theorem dX2_run_119 : decode cX2_run 119 = .ok (.getfield 28, 3) := by decide +kernel
theorem dX2_run_122 : decode cX2_run 122 = .ok (.iload_n 3, 1) := by decide +kernel
theorem dX2_run_123 : decode cX2_run 123 = .ok (.iconst 1, 1) := by decide +kernel
theorem dX2_run_124 : decode cX2_run 124 = .ok (.bastore, 1) := by decide +kernel
theorem dX2_run_125 : decode cX2_run 125 = .ok (.aload_n 0, 1) := by decide +kernel
theorem dX2_run_126 : decode cX2_run 126 = .ok (.getfield 68, 3) := by decide +kernel
theorem dX2_run_129 : decode cX2_run 129 = .ok (.iconst 1, 1) := by decide +kernel
theorem dX2_run_130 : decode cX2_run 130 = .ok (.isub, 1) := by decide +kernel
theorem dX2_run_131 : decode cX2_run 131 = .ok (.istore 4, 2) := by decide +kernel
theorem dX2_run_133 : decode cX2_run 133 = .ok (.iload 4, 2) := by decide +kernel
theorem dX2_run_135 : decode cX2_run 135 = .ok (.ifCond .lt 39, 3) := by decide +kernel
theorem dX2_run_138 : decode cX2_run 138 = .ok (.aload_n 0, 1) := by decide +kernel
theorem dX2_run_139 : decode cX2_run 139 = .ok (.getfield 13, 3) := by decide +kernel
theorem dX2_run_142 : decode cX2_run 142 = .ok (.iload 4, 2) := by decide +kernel
theorem dX2_run_144 : decode cX2_run 144 = .ok (.iaload, 1) := by decide +kernel
theorem dX2_run_145 : decode cX2_run 145 = .ok (.iload_n 3, 1) := by decide +kernel
theorem dX2_run_146 : decode cX2_run 146 = .ok (.if_icmp .ne 22, 3) := by decide +kernel
theorem dX2_run_149 : decode cX2_run 149 = .ok (.aload_n 0, 1) := by decide +kernel
theorem dX2_run_150 : decode cX2_run 150 = .ok (.iload_n 3, 1) := by decide +kernel
theorem dX2_run_151 : decode cX2_run 151 = .ok (.aload_n 0, 1) := by decide +kernel
theorem dX2_run_152 : decode cX2_run 152 = .ok (.getfield 16, 3) := by decide +kernel
theorem dX2_run_155 : decode cX2_run 155 = .ok (.iload 4, 2) := by decide +kernel
theorem dX2_run_157 : decode cX2_run 157 = .ok (.iaload, 1) := by decide +kernel
theorem dX2_run_158 : decode cX2_run 158 = .ok (.aload_n 0, 1) := by decide +kernel
theorem dX2_run_159 : decode cX2_run 159 = .ok (.getfield 19, 3) := by decide +kernel
theorem dX2_run_162 : decode cX2_run 162 = .ok (.iload 4, 2) := by decide +kernel
theorem dX2_run_164 : decode cX2_run 164 = .ok (.iaload, 1) := by decide +kernel
theorem dX2_run_165 : decode cX2_run 165 = .ok (.invokevirtual 91, 3) := by decide +kernel
theorem dX2_run_168 : decode cX2_run 168 = .ok (.iinc 4 (-1), 3) := by decide +kernel
theorem dX2_run_171 : decode cX2_run 171 = .ok (.goto (-38), 3) := by decide +kernel
theorem dX2_run_174 : decode cX2_run 174 = .ok (.goto (-125), 3) := by decide +kernel
theorem dX2_run_177 : decode cX2_run 177 = .ok (.aload_n 0, 1) := by decide +kernel
theorem dX2_run_178 : decode cX2_run 178 = .ok (.iload_n 1, 1) := by decide +kernel
theorem dX2_run_179 : decode cX2_run 179 = .ok (.invokevirtual 95, 3) := by decide +kernel
theorem dX2_run_182 : decode cX2_run 182 = .ok (.aload_n 0, 1) := by decide +kernel
theorem dX2_run_183 : decode cX2_run 183 = .ok (.iconst 1, 1) := by decide +kernel
theorem dX2_run_184 : decode cX2_run 184 = .ok (.putfield 71, 3) := by decide +kernel
theorem dX2_run_187 : decode cX2_run 187 = .ok (.iconst 0, 1) := by decide +kernel
theorem dX2_run_188 : decode cX2_run 188 = .ok (.istore_n 2, 1) := by decide +kernel
theorem dX2_run_189 : decode cX2_run 189 = .ok (.iload_n 2, 1) := by decide +kernel
theorem dX2_run_190 : decode cX2_run 190 = .ok (.aload_n 0, 1) := by decide +kernel
theorem dX2_run_191 : decode cX2_run 191 = .ok (.getfield 35, 3) := by decide +kernel
theorem dX2_run_194 : decode cX2_run 194 = .ok (.if_icmp .ge 43, 3) := by decide +kernel
theorem dX2_run_197 : decode cX2_run 197 = .ok (.aload_n 0, 1) := by decide +kernel
theorem dX2_run_198 : decode cX2_run 198 = .ok (.aload_n 0, 1) := by decide +kernel
theorem dX2_run_199 : decode cX2_run 199 = .ok (.getfield 71, 3) := by decide +kernel
theorem dX2_run_202 : decode cX2_run 202 = .ok (.ifCond .eq 25, 3) := by decide +kernel
theorem dX2_run_205 : decode cX2_run 205 = .ok (.aload_n 0, 1) := by decide +kernel
theorem dX2_run_206 : decode cX2_run 206 = .ok (.getfield 28, 3) := by decide +kernel
theorem dX2_run_209 : decode cX2_run 209 = .ok (.iload_n 2, 1) := by decide +kernel
theorem dX2_run_210 : decode cX2_run 210 = .ok (.baload, 1) := by decide +kernel
theorem dX2_run_211 : decode cX2_run 211 = .ok (.ifCond .ne 12, 3) := by decide +kernel
theorem dX2_run_214 : decode cX2_run 214 = .ok (.aload_n 0, 1) := by decide +kernel
theorem dX2_run_215 : decode cX2_run 215 = .ok (.getfield 32, 3) := by decide +kernel
theorem dX2_run_218 : decode cX2_run 218 = .ok (.iload_n 2, 1) := by decide +kernel
theorem dX2_run_219 : decode cX2_run 219 = .ok (.baload, 1) := by decide +kernel
theorem dX2_run_220 : decode cX2_run 220 = .ok (.ifCond .ne 7, 3) := by decide +kernel
theorem dX2_run_223 : decode cX2_run 223 = .ok (.iconst 1, 1) := by decide +kernel
theorem dX2_run_224 : decode cX2_run 224 = .ok (.goto 4, 3) := by decide +kernel
theorem dX2_run_227 : decode cX2_run 227 = .ok (.iconst 0, 1) := by decide +kernel
theorem dX2_run_228 : decode cX2_run 228 = .ok (.putfield 71, 3) := by decide +kernel
theorem dX2_run_231 : decode cX2_run 231 = .ok (.iinc 2 1, 3) := by decide +kernel
theorem dX2_run_234 : decode cX2_run 234 = .ok (.goto (-45), 3) := by decide +kernel
theorem dX2_run_237 : decode cX2_run 237 = .ok (.aload_n 0, 1) := by decide +kernel
theorem dX2_run_238 : decode cX2_run 238 = .ok (.getfield 71, 3) := by decide +kernel
theorem dX2_run_241 : decode cX2_run 241 = .ok (.ifCond .eq 7, 3) := by decide +kernel
theorem dX2_run_244 : decode cX2_run 244 = .ok (.iconst 0, 1) := by decide +kernel
theorem dX2_run_245 : decode cX2_run 245 = .ok (.goto 5, 3) := by decide +kernel
theorem dX2_run_248 : decode cX2_run 248 = .ok (.bipush (-2), 2) := by decide +kernel
theorem dX2_run_250 : decode cX2_run 250 = .ok (.ireturn, 1) := by decide +kernel
theorem dX2_distance_0 : decode cX2_distance 0 = .ok (.aload_n 0, 1) := by decide +kernel
theorem dX2_distance_1 : decode cX2_distance 1 = .ok (.getfield 71, 3) := by decide +kernel
theorem dX2_distance_4 : decode cX2_distance 4 = .ok (.ifCond .eq 29, 3) := by decide +kernel
theorem dX2_distance_7 : decode cX2_distance 7 = .ok (.aload_n 0, 1) := by decide +kernel
theorem dX2_distance_8 : decode cX2_distance 8 = .ok (.iload_n 1, 1) := by decide +kernel
theorem dX2_distance_9 : decode cX2_distance 9 = .ok (.invokevirtual 51, 3) := by decide +kernel
theorem dX2_distance_12 : decode cX2_distance 12 = .ok (.ifCond .eq 21, 3) := by decide +kernel
theorem dX2_distance_15 : decode cX2_distance 15 = .ok (.aload_n 0, 1) := by decide +kernel
theorem dX2_distance_16 : decode cX2_distance 16 = .ok (.getfield 28, 3) := by decide +kernel
theorem dX2_distance_19 : decode cX2_distance 19 = .ok (.iload_n 1, 1) := by decide +kernel
theorem dX2_distance_20 : decode cX2_distance 20 = .ok (.baload, 1) := by decide +kernel
theorem dX2_distance_21 : decode cX2_distance 21 = .ok (.ifCond .eq 12, 3) := by decide +kernel
theorem dX2_distance_24 : decode cX2_distance 24 = .ok (.aload_n 0, 1) := by decide +kernel
theorem dX2_distance_25 : decode cX2_distance 25 = .ok (.getfield 22, 3) := by decide +kernel
theorem dX2_distance_28 : decode cX2_distance 28 = .ok (.iload_n 1, 1) := by decide +kernel
theorem dX2_distance_29 : decode cX2_distance 29 = .ok (.iaload, 1) := by decide +kernel
theorem dX2_distance_30 : decode cX2_distance 30 = .ok (.goto 4, 3) := by decide +kernel
theorem dX2_distance_33 : decode cX2_distance 33 = .ok (.iconst (-1), 1) := by decide +kernel
theorem dX2_distance_34 : decode cX2_distance 34 = .ok (.ireturn, 1) := by decide +kernel
theorem dX2_before_0 : decode cX2_before 0 = .ok (.aload_n 0, 1) := by decide +kernel
theorem dX2_before_1 : decode cX2_before 1 = .ok (.getfield 71, 3) := by decide +kernel
theorem dX2_before_4 : decode cX2_before 4 = .ok (.ifCond .eq 29, 3) := by decide +kernel
theorem dX2_before_7 : decode cX2_before 7 = .ok (.aload_n 0, 1) := by decide +kernel
theorem dX2_before_8 : decode cX2_before 8 = .ok (.iload_n 1, 1) := by decide +kernel
theorem dX2_before_9 : decode cX2_before 9 = .ok (.invokevirtual 51, 3) := by decide +kernel
theorem dX2_before_12 : decode cX2_before 12 = .ok (.ifCond .eq 21, 3) := by decide +kernel
theorem dX2_before_15 : decode cX2_before 15 = .ok (.aload_n 0, 1) := by decide +kernel
theorem dX2_before_16 : decode cX2_before 16 = .ok (.getfield 28, 3) := by decide +kernel
theorem dX2_before_19 : decode cX2_before 19 = .ok (.iload_n 1, 1) := by decide +kernel
theorem dX2_before_20 : decode cX2_before 20 = .ok (.baload, 1) := by decide +kernel
theorem dX2_before_21 : decode cX2_before 21 = .ok (.ifCond .eq 12, 3) := by decide +kernel
theorem dX2_before_24 : decode cX2_before 24 = .ok (.aload_n 0, 1) := by decide +kernel
theorem dX2_before_25 : decode cX2_before 25 = .ok (.getfield 25, 3) := by decide +kernel
theorem dX2_before_28 : decode cX2_before 28 = .ok (.iload_n 1, 1) := by decide +kernel
theorem dX2_before_29 : decode cX2_before 29 = .ok (.iaload, 1) := by decide +kernel
theorem dX2_before_30 : decode cX2_before 30 = .ok (.goto 4, 3) := by decide +kernel
theorem dX2_before_33 : decode cX2_before 33 = .ok (.iconst (-1), 1) := by decide +kernel
theorem dX2_before_34 : decode cX2_before 34 = .ok (.ireturn, 1) := by decide +kernel
theorem dX2_sound_0 : decode cX2_sound 0 = .ok (.iconst 1, 1) := by decide +kernel
theorem dX2_sound_1 : decode cX2_sound 1 = .ok (.ireturn, 1) := by decide +kernel
theorem dX2_count_0 : decode cX2_count 0 = .ok (.iload_n 1, 1) := by decide +kernel
theorem dX2_count_1 : decode cX2_count 1 = .ok (.ifCond .ne 10, 3) := by decide +kernel
theorem dX2_count_4 : decode cX2_count 4 = .ok (.aload_n 0, 1) := by decide +kernel
theorem dX2_count_5 : decode cX2_count 5 = .ok (.getfield 35, 3) := by decide +kernel
theorem dX2_count_8 : decode cX2_count 8 = .ok (.goto 28, 3) := by decide +kernel
theorem dX2_count_11 : decode cX2_count 11 = .ok (.iload_n 1, 1) := by decide +kernel
theorem dX2_count_12 : decode cX2_count 12 = .ok (.iconst 1, 1) := by decide +kernel
theorem dX2_count_13 : decode cX2_count 13 = .ok (.if_icmp .ne 10, 3) := by decide +kernel
theorem dX2_count_16 : decode cX2_count 16 = .ok (.aload_n 0, 1) := by decide +kernel
theorem dX2_count_17 : decode cX2_count 17 = .ok (.getfield 68, 3) := by decide +kernel
theorem dX2_count_20 : decode cX2_count 20 = .ok (.goto 16, 3) := by decide +kernel
theorem dX2_count_23 : decode cX2_count 23 = .ok (.iload_n 1, 1) := by decide +kernel
theorem dX2_count_24 : decode cX2_count 24 = .ok (.iconst 2, 1) := by decide +kernel
theorem dX2_count_25 : decode cX2_count 25 = .ok (.if_icmp .ne 10, 3) := by decide +kernel
theorem dX2_count_28 : decode cX2_count 28 = .ok (.aload_n 0, 1) := by decide +kernel
theorem dX2_count_29 : decode cX2_count 29 = .ok (.getfield 58, 3) := by decide +kernel
theorem dX2_count_32 : decode cX2_count 32 = .ok (.goto 4, 3) := by decide +kernel
theorem dX2_count_35 : decode cX2_count 35 = .ok (.iconst (-1), 1) := by decide +kernel
theorem dX2_count_36 : decode cX2_count 36 = .ok (.ireturn, 1) := by decide +kernel
theorem dL_cell_0 : decode cL_cell 0 = .ok (.iload_n 1, 1) := by decide +kernel
theorem dL_cell_1 : decode cL_cell 1 = .ok (.aload_n 0, 1) := by decide +kernel
theorem dL_cell_2 : decode cL_cell 2 = .ok (.arraylength, 1) := by decide +kernel
theorem dL_cell_3 : decode cL_cell 3 = .ok (.if_icmp .ge 9, 3) := by decide +kernel
theorem dL_cell_6 : decode cL_cell 6 = .ok (.aload_n 0, 1) := by decide +kernel
theorem dL_cell_7 : decode cL_cell 7 = .ok (.iload_n 1, 1) := by decide +kernel
theorem dL_cell_8 : decode cL_cell 8 = .ok (.iaload, 1) := by decide +kernel
theorem dL_cell_9 : decode cL_cell 9 = .ok (.goto 4, 3) := by decide +kernel
theorem dL_cell_12 : decode cL_cell 12 = .ok (.iconst 0, 1) := by decide +kernel
theorem dL_cell_13 : decode cL_cell 13 = .ok (.ireturn, 1) := by decide +kernel
end
section
theorem dL_law_0 : decode cL_law 0 = .ok (.new 7, 3) := by decide +kernel
theorem dL_law_3 : decode cL_law 3 = .ok (.dup, 1) := by decide +kernel
theorem dL_law_4 : decode cL_law 4 = .ok (.aload_n 0, 1) := by decide +kernel
theorem dL_law_5 : decode cL_law 5 = .ok (.iconst 0, 1) := by decide +kernel
theorem dL_law_6 : decode cL_law 6 = .ok (.invokestatic 9, 3) := by decide +kernel
theorem dL_law_9 : decode cL_law 9 = .ok (.aload_n 0, 1) := by decide +kernel
theorem dL_law_10 : decode cL_law 10 = .ok (.iconst 1, 1) := by decide +kernel
theorem dL_law_11 : decode cL_law 11 = .ok (.invokestatic 9, 3) := by decide +kernel
theorem dL_law_14 : decode cL_law 14 = .ok (.aload_n 0, 1) := by decide +kernel
theorem dL_law_15 : decode cL_law 15 = .ok (.iconst 2, 1) := by decide +kernel
theorem dL_law_16 : decode cL_law 16 = .ok (.invokestatic 9, 3) := by decide +kernel
theorem dL_law_19 : decode cL_law 19 = .ok (.invokespecial 15, 3) := by decide +kernel
theorem dL_law_22 : decode cL_law 22 = .ok (.astore_n 1, 1) := by decide +kernel
theorem dL_law_23 : decode cL_law 23 = .ok (.new 18, 3) := by decide +kernel
theorem dL_law_26 : decode cL_law 26 = .ok (.dup, 1) := by decide +kernel
theorem dL_law_27 : decode cL_law 27 = .ok (.aload_n 0, 1) := by decide +kernel
theorem dL_law_28 : decode cL_law 28 = .ok (.iconst 0, 1) := by decide +kernel
theorem dL_law_29 : decode cL_law 29 = .ok (.invokestatic 9, 3) := by decide +kernel
theorem dL_law_32 : decode cL_law 32 = .ok (.aload_n 0, 1) := by decide +kernel
theorem dL_law_33 : decode cL_law 33 = .ok (.iconst 1, 1) := by decide +kernel
theorem dL_law_34 : decode cL_law 34 = .ok (.invokestatic 9, 3) := by decide +kernel
theorem dL_law_37 : decode cL_law 37 = .ok (.aload_n 0, 1) := by decide +kernel
theorem dL_law_38 : decode cL_law 38 = .ok (.iconst 2, 1) := by decide +kernel
theorem dL_law_39 : decode cL_law 39 = .ok (.invokestatic 9, 3) := by decide +kernel
theorem dL_law_42 : decode cL_law 42 = .ok (.invokespecial 20, 3) := by decide +kernel
theorem dL_law_45 : decode cL_law 45 = .ok (.astore_n 2, 1) := by decide +kernel
theorem dL_law_46 : decode cL_law 46 = .ok (.iconst 3, 1) := by decide +kernel
theorem dL_law_47 : decode cL_law 47 = .ok (.istore_n 3, 1) := by decide +kernel
theorem dL_law_48 : decode cL_law 48 = .ok (.iload_n 3, 1) := by decide +kernel
theorem dL_law_49 : decode cL_law 49 = .ok (.aload_n 0, 1) := by decide +kernel
theorem dL_law_50 : decode cL_law 50 = .ok (.arraylength, 1) := by decide +kernel
theorem dL_law_51 : decode cL_law 51 = .ok (.iconst 4, 1) := by decide +kernel
theorem dL_law_52 : decode cL_law 52 = .ok (.isub, 1) := by decide +kernel
theorem dL_law_53 : decode cL_law 53 = .ok (.if_icmp .gt 424, 3) := by decide +kernel
theorem dL_law_56 : decode cL_law 56 = .ok (.aload_n 0, 1) := by decide +kernel
theorem dL_law_57 : decode cL_law 57 = .ok (.iload_n 3, 1) := by decide +kernel
theorem dL_law_58 : decode cL_law 58 = .ok (.iaload, 1) := by decide +kernel
theorem dL_law_59 : decode cL_law 59 = .ok (.bipush 15, 2) := by decide +kernel
theorem dL_law_61 : decode cL_law 61 = .ok (.iand, 1) := by decide +kernel
theorem dL_law_62 : decode cL_law 62 = .ok (.tableswitch 409 0 14 #[74, 107, 140, 153, 166, 179, 202, 225, 248, 261, 304, 327, 350, 373, 386], 74) := by decide +kernel
theorem dL_law_136 : decode cL_law 136 = .ok (.aload_n 1, 1) := by decide +kernel
theorem dL_law_137 : decode cL_law 137 = .ok (.aload_n 0, 1) := by decide +kernel
theorem dL_law_138 : decode cL_law 138 = .ok (.iload_n 3, 1) := by decide +kernel
theorem dL_law_139 : decode cL_law 139 = .ok (.iconst 1, 1) := by decide +kernel
theorem dL_law_140 : decode cL_law 140 = .ok (.iadd, 1) := by decide +kernel
theorem dL_law_141 : decode cL_law 141 = .ok (.iaload, 1) := by decide +kernel
theorem dL_law_142 : decode cL_law 142 = .ok (.aload_n 0, 1) := by decide +kernel
theorem dL_law_143 : decode cL_law 143 = .ok (.iload_n 3, 1) := by decide +kernel
theorem dL_law_144 : decode cL_law 144 = .ok (.iconst 2, 1) := by decide +kernel
theorem dL_law_145 : decode cL_law 145 = .ok (.iadd, 1) := by decide +kernel
theorem dL_law_146 : decode cL_law 146 = .ok (.iaload, 1) := by decide +kernel
theorem dL_law_147 : decode cL_law 147 = .ok (.invokevirtual 21, 3) := by decide +kernel
theorem dL_law_150 : decode cL_law 150 = .ok (.pop, 1) := by decide +kernel
theorem dL_law_151 : decode cL_law 151 = .ok (.aload_n 2, 1) := by decide +kernel
theorem dL_law_152 : decode cL_law 152 = .ok (.aload_n 0, 1) := by decide +kernel
theorem dL_law_153 : decode cL_law 153 = .ok (.iload_n 3, 1) := by decide +kernel
theorem dL_law_154 : decode cL_law 154 = .ok (.iconst 1, 1) := by decide +kernel
theorem dL_law_155 : decode cL_law 155 = .ok (.iadd, 1) := by decide +kernel
theorem dL_law_156 : decode cL_law 156 = .ok (.iaload, 1) := by decide +kernel
theorem dL_law_157 : decode cL_law 157 = .ok (.aload_n 0, 1) := by decide +kernel
theorem dL_law_158 : decode cL_law 158 = .ok (.iload_n 3, 1) := by decide +kernel
theorem dL_law_159 : decode cL_law 159 = .ok (.iconst 2, 1) := by decide +kernel
theorem dL_law_160 : decode cL_law 160 = .ok (.iadd, 1) := by decide +kernel
theorem dL_law_161 : decode cL_law 161 = .ok (.iaload, 1) := by decide +kernel
theorem dL_law_162 : decode cL_law 162 = .ok (.invokevirtual 25, 3) := by decide +kernel
theorem dL_law_165 : decode cL_law 165 = .ok (.pop, 1) := by decide +kernel
theorem dL_law_166 : decode cL_law 166 = .ok (.goto 305, 3) := by decide +kernel
theorem dL_law_169 : decode cL_law 169 = .ok (.aload_n 1, 1) := by decide +kernel
theorem dL_law_170 : decode cL_law 170 = .ok (.aload_n 0, 1) := by decide +kernel
theorem dL_law_171 : decode cL_law 171 = .ok (.iload_n 3, 1) := by decide +kernel
theorem dL_law_172 : decode cL_law 172 = .ok (.iconst 1, 1) := by decide +kernel
theorem dL_law_173 : decode cL_law 173 = .ok (.iadd, 1) := by decide +kernel
theorem dL_law_174 : decode cL_law 174 = .ok (.iaload, 1) := by decide +kernel
theorem dL_law_175 : decode cL_law 175 = .ok (.aload_n 0, 1) := by decide +kernel
theorem dL_law_176 : decode cL_law 176 = .ok (.iload_n 3, 1) := by decide +kernel
theorem dL_law_177 : decode cL_law 177 = .ok (.iconst 2, 1) := by decide +kernel
theorem dL_law_178 : decode cL_law 178 = .ok (.iadd, 1) := by decide +kernel
theorem dL_law_179 : decode cL_law 179 = .ok (.iaload, 1) := by decide +kernel
theorem dL_law_180 : decode cL_law 180 = .ok (.invokevirtual 26, 3) := by decide +kernel
theorem dL_law_183 : decode cL_law 183 = .ok (.pop, 1) := by decide +kernel
theorem dL_law_184 : decode cL_law 184 = .ok (.aload_n 2, 1) := by decide +kernel
theorem dL_law_185 : decode cL_law 185 = .ok (.aload_n 0, 1) := by decide +kernel
theorem dL_law_186 : decode cL_law 186 = .ok (.iload_n 3, 1) := by decide +kernel
theorem dL_law_187 : decode cL_law 187 = .ok (.iconst 1, 1) := by decide +kernel
theorem dL_law_188 : decode cL_law 188 = .ok (.iadd, 1) := by decide +kernel
theorem dL_law_189 : decode cL_law 189 = .ok (.iaload, 1) := by decide +kernel
theorem dL_law_190 : decode cL_law 190 = .ok (.aload_n 0, 1) := by decide +kernel
theorem dL_law_191 : decode cL_law 191 = .ok (.iload_n 3, 1) := by decide +kernel
theorem dL_law_192 : decode cL_law 192 = .ok (.iconst 2, 1) := by decide +kernel
theorem dL_law_193 : decode cL_law 193 = .ok (.iadd, 1) := by decide +kernel
theorem dL_law_194 : decode cL_law 194 = .ok (.iaload, 1) := by decide +kernel
theorem dL_law_195 : decode cL_law 195 = .ok (.invokevirtual 29, 3) := by decide +kernel
theorem dL_law_198 : decode cL_law 198 = .ok (.pop, 1) := by decide +kernel
theorem dL_law_199 : decode cL_law 199 = .ok (.goto 272, 3) := by decide +kernel
theorem dL_law_202 : decode cL_law 202 = .ok (.aload_n 1, 1) := by decide +kernel
theorem dL_law_203 : decode cL_law 203 = .ok (.invokevirtual 30, 3) := by decide +kernel
theorem dL_law_206 : decode cL_law 206 = .ok (.pop, 1) := by decide +kernel
theorem dL_law_207 : decode cL_law 207 = .ok (.aload_n 2, 1) := by decide +kernel
theorem dL_law_208 : decode cL_law 208 = .ok (.invokevirtual 34, 3) := by decide +kernel
theorem dL_law_211 : decode cL_law 211 = .ok (.pop, 1) := by decide +kernel
theorem dL_law_212 : decode cL_law 212 = .ok (.goto 259, 3) := by decide +kernel
theorem dL_law_215 : decode cL_law 215 = .ok (.aload_n 1, 1) := by decide +kernel
theorem dL_law_216 : decode cL_law 216 = .ok (.invokevirtual 35, 3) := by decide +kernel
theorem dL_law_219 : decode cL_law 219 = .ok (.pop, 1) := by decide +kernel
theorem dL_law_220 : decode cL_law 220 = .ok (.aload_n 2, 1) := by decide +kernel
theorem dL_law_221 : decode cL_law 221 = .ok (.invokevirtual 38, 3) := by decide +kernel
theorem dL_law_224 : decode cL_law 224 = .ok (.pop, 1) := by decide +kernel
theorem dL_law_225 : decode cL_law 225 = .ok (.goto 246, 3) := by decide +kernel
theorem dL_law_228 : decode cL_law 228 = .ok (.aload_n 1, 1) := by decide +kernel
theorem dL_law_229 : decode cL_law 229 = .ok (.invokevirtual 39, 3) := by decide +kernel
theorem dL_law_232 : decode cL_law 232 = .ok (.pop, 1) := by decide +kernel
theorem dL_law_233 : decode cL_law 233 = .ok (.aload_n 2, 1) := by decide +kernel
theorem dL_law_234 : decode cL_law 234 = .ok (.invokevirtual 42, 3) := by decide +kernel
theorem dL_law_237 : decode cL_law 237 = .ok (.pop, 1) := by decide +kernel
theorem dL_law_238 : decode cL_law 238 = .ok (.goto 233, 3) := by decide +kernel
theorem dL_law_241 : decode cL_law 241 = .ok (.aload_n 1, 1) := by decide +kernel
theorem dL_law_242 : decode cL_law 242 = .ok (.aload_n 0, 1) := by decide +kernel
theorem dL_law_243 : decode cL_law 243 = .ok (.iload_n 3, 1) := by decide +kernel
theorem dL_law_244 : decode cL_law 244 = .ok (.iconst 1, 1) := by decide +kernel
theorem dL_law_245 : decode cL_law 245 = .ok (.iadd, 1) := by decide +kernel
theorem dL_law_246 : decode cL_law 246 = .ok (.iaload, 1) := by decide +kernel
theorem dL_law_247 : decode cL_law 247 = .ok (.invokevirtual 43, 3) := by decide +kernel
theorem dL_law_250 : decode cL_law 250 = .ok (.pop, 1) := by decide +kernel
theorem dL_law_251 : decode cL_law 251 = .ok (.aload_n 2, 1) := by decide +kernel
theorem dL_law_252 : decode cL_law 252 = .ok (.aload_n 0, 1) := by decide +kernel
theorem dL_law_253 : decode cL_law 253 = .ok (.iload_n 3, 1) := by decide +kernel
theorem dL_law_254 : decode cL_law 254 = .ok (.iconst 1, 1) := by decide +kernel
theorem dL_law_255 : decode cL_law 255 = .ok (.iadd, 1) := by decide +kernel
theorem dL_law_256 : decode cL_law 256 = .ok (.iaload, 1) := by decide +kernel
theorem dL_law_257 : decode cL_law 257 = .ok (.invokevirtual 47, 3) := by decide +kernel
theorem dL_law_260 : decode cL_law 260 = .ok (.pop, 1) := by decide +kernel
theorem dL_law_261 : decode cL_law 261 = .ok (.goto 210, 3) := by decide +kernel
theorem dL_law_264 : decode cL_law 264 = .ok (.aload_n 1, 1) := by decide +kernel
theorem dL_law_265 : decode cL_law 265 = .ok (.aload_n 0, 1) := by decide +kernel
theorem dL_law_266 : decode cL_law 266 = .ok (.iload_n 3, 1) := by decide +kernel
theorem dL_law_267 : decode cL_law 267 = .ok (.iconst 1, 1) := by decide +kernel
theorem dL_law_268 : decode cL_law 268 = .ok (.iadd, 1) := by decide +kernel
theorem dL_law_269 : decode cL_law 269 = .ok (.iaload, 1) := by decide +kernel
theorem dL_law_270 : decode cL_law 270 = .ok (.invokevirtual 48, 3) := by decide +kernel
theorem dL_law_273 : decode cL_law 273 = .ok (.pop, 1) := by decide +kernel
theorem dL_law_274 : decode cL_law 274 = .ok (.aload_n 2, 1) := by decide +kernel
theorem dL_law_275 : decode cL_law 275 = .ok (.aload_n 0, 1) := by decide +kernel
theorem dL_law_276 : decode cL_law 276 = .ok (.iload_n 3, 1) := by decide +kernel
theorem dL_law_277 : decode cL_law 277 = .ok (.iconst 1, 1) := by decide +kernel
theorem dL_law_278 : decode cL_law 278 = .ok (.iadd, 1) := by decide +kernel
theorem dL_law_279 : decode cL_law 279 = .ok (.iaload, 1) := by decide +kernel
theorem dL_law_280 : decode cL_law 280 = .ok (.invokevirtual 51, 3) := by decide +kernel
theorem dL_law_283 : decode cL_law 283 = .ok (.pop, 1) := by decide +kernel
theorem dL_law_284 : decode cL_law 284 = .ok (.goto 187, 3) := by decide +kernel
theorem dL_law_287 : decode cL_law 287 = .ok (.aload_n 1, 1) := by decide +kernel
theorem dL_law_288 : decode cL_law 288 = .ok (.aload_n 0, 1) := by decide +kernel
theorem dL_law_289 : decode cL_law 289 = .ok (.iload_n 3, 1) := by decide +kernel
theorem dL_law_290 : decode cL_law 290 = .ok (.iconst 1, 1) := by decide +kernel
theorem dL_law_291 : decode cL_law 291 = .ok (.iadd, 1) := by decide +kernel
theorem dL_law_292 : decode cL_law 292 = .ok (.iaload, 1) := by decide +kernel
theorem dL_law_293 : decode cL_law 293 = .ok (.invokevirtual 52, 3) := by decide +kernel
theorem dL_law_296 : decode cL_law 296 = .ok (.aload_n 2, 1) := by decide +kernel
theorem dL_law_297 : decode cL_law 297 = .ok (.aload_n 0, 1) := by decide +kernel
theorem dL_law_298 : decode cL_law 298 = .ok (.iload_n 3, 1) := by decide +kernel
theorem dL_law_299 : decode cL_law 299 = .ok (.iconst 1, 1) := by decide +kernel
theorem dL_law_300 : decode cL_law 300 = .ok (.iadd, 1) := by decide +kernel
theorem dL_law_301 : decode cL_law 301 = .ok (.iaload, 1) := by decide +kernel
theorem dL_law_302 : decode cL_law 302 = .ok (.invokevirtual 55, 3) := by decide +kernel
theorem dL_law_305 : decode cL_law 305 = .ok (.if_icmp .eq 166, 3) := by decide +kernel
theorem dL_law_308 : decode cL_law 308 = .ok (.iconst 0, 1) := by decide +kernel
theorem dL_law_309 : decode cL_law 309 = .ok (.ireturn, 1) := by decide +kernel
theorem dL_law_310 : decode cL_law 310 = .ok (.aload_n 1, 1) := by decide +kernel
theorem dL_law_311 : decode cL_law 311 = .ok (.invokevirtual 56, 3) := by decide +kernel
theorem dL_law_314 : decode cL_law 314 = .ok (.pop, 1) := by decide +kernel
theorem dL_law_315 : decode cL_law 315 = .ok (.aload_n 2, 1) := by decide +kernel
theorem dL_law_316 : decode cL_law 316 = .ok (.invokevirtual 59, 3) := by decide +kernel
theorem dL_law_319 : decode cL_law 319 = .ok (.pop, 1) := by decide +kernel
theorem dL_law_320 : decode cL_law 320 = .ok (.goto 151, 3) := by decide +kernel
theorem dL_law_323 : decode cL_law 323 = .ok (.aload_n 1, 1) := by decide +kernel
theorem dL_law_324 : decode cL_law 324 = .ok (.aload_n 0, 1) := by decide +kernel
theorem dL_law_325 : decode cL_law 325 = .ok (.iload_n 3, 1) := by decide +kernel
theorem dL_law_326 : decode cL_law 326 = .ok (.iconst 1, 1) := by decide +kernel
theorem dL_law_327 : decode cL_law 327 = .ok (.iadd, 1) := by decide +kernel
theorem dL_law_328 : decode cL_law 328 = .ok (.iaload, 1) := by decide +kernel
theorem dL_law_329 : decode cL_law 329 = .ok (.aload_n 0, 1) := by decide +kernel
theorem dL_law_330 : decode cL_law 330 = .ok (.iload_n 3, 1) := by decide +kernel
theorem dL_law_331 : decode cL_law 331 = .ok (.iconst 2, 1) := by decide +kernel
theorem dL_law_332 : decode cL_law 332 = .ok (.iadd, 1) := by decide +kernel
theorem dL_law_333 : decode cL_law 333 = .ok (.iaload, 1) := by decide +kernel
theorem dL_law_334 : decode cL_law 334 = .ok (.aload_n 0, 1) := by decide +kernel
theorem dL_law_335 : decode cL_law 335 = .ok (.iload_n 3, 1) := by decide +kernel
theorem dL_law_336 : decode cL_law 336 = .ok (.iconst 3, 1) := by decide +kernel
theorem dL_law_337 : decode cL_law 337 = .ok (.iadd, 1) := by decide +kernel
theorem dL_law_338 : decode cL_law 338 = .ok (.iaload, 1) := by decide +kernel
theorem dL_law_339 : decode cL_law 339 = .ok (.invokevirtual 60, 3) := by decide +kernel
theorem dL_law_342 : decode cL_law 342 = .ok (.pop, 1) := by decide +kernel
theorem dL_law_343 : decode cL_law 343 = .ok (.aload_n 2, 1) := by decide +kernel
theorem dL_law_344 : decode cL_law 344 = .ok (.aload_n 0, 1) := by decide +kernel
theorem dL_law_345 : decode cL_law 345 = .ok (.iload_n 3, 1) := by decide +kernel
theorem dL_law_346 : decode cL_law 346 = .ok (.iconst 1, 1) := by decide +kernel
theorem dL_law_347 : decode cL_law 347 = .ok (.iadd, 1) := by decide +kernel
theorem dL_law_348 : decode cL_law 348 = .ok (.iaload, 1) := by decide +kernel
theorem dL_law_349 : decode cL_law 349 = .ok (.aload_n 0, 1) := by decide +kernel
theorem dL_law_350 : decode cL_law 350 = .ok (.iload_n 3, 1) := by decide +kernel
theorem dL_law_351 : decode cL_law 351 = .ok (.iconst 2, 1) := by decide +kernel
theorem dL_law_352 : decode cL_law 352 = .ok (.iadd, 1) := by decide +kernel
theorem dL_law_353 : decode cL_law 353 = .ok (.iaload, 1) := by decide +kernel
theorem dL_law_354 : decode cL_law 354 = .ok (.aload_n 0, 1) := by decide +kernel
theorem dL_law_355 : decode cL_law 355 = .ok (.iload_n 3, 1) := by decide +kernel
theorem dL_law_356 : decode cL_law 356 = .ok (.iconst 3, 1) := by decide +kernel
theorem dL_law_357 : decode cL_law 357 = .ok (.iadd, 1) := by decide +kernel
theorem dL_law_358 : decode cL_law 358 = .ok (.iaload, 1) := by decide +kernel
theorem dL_law_359 : decode cL_law 359 = .ok (.invokevirtual 64, 3) := by decide +kernel
theorem dL_law_362 : decode cL_law 362 = .ok (.pop, 1) := by decide +kernel
theorem dL_law_363 : decode cL_law 363 = .ok (.goto 108, 3) := by decide +kernel
theorem dL_law_366 : decode cL_law 366 = .ok (.aload_n 1, 1) := by decide +kernel
theorem dL_law_367 : decode cL_law 367 = .ok (.aload_n 0, 1) := by decide +kernel
theorem dL_law_368 : decode cL_law 368 = .ok (.iload_n 3, 1) := by decide +kernel
theorem dL_law_369 : decode cL_law 369 = .ok (.iconst 1, 1) := by decide +kernel
theorem dL_law_370 : decode cL_law 370 = .ok (.iadd, 1) := by decide +kernel
theorem dL_law_371 : decode cL_law 371 = .ok (.iaload, 1) := by decide +kernel
theorem dL_law_372 : decode cL_law 372 = .ok (.invokevirtual 65, 3) := by decide +kernel
theorem dL_law_375 : decode cL_law 375 = .ok (.pop, 1) := by decide +kernel
theorem dL_law_376 : decode cL_law 376 = .ok (.aload_n 2, 1) := by decide +kernel
theorem dL_law_377 : decode cL_law 377 = .ok (.aload_n 0, 1) := by decide +kernel
theorem dL_law_378 : decode cL_law 378 = .ok (.iload_n 3, 1) := by decide +kernel
theorem dL_law_379 : decode cL_law 379 = .ok (.iconst 1, 1) := by decide +kernel
theorem dL_law_380 : decode cL_law 380 = .ok (.iadd, 1) := by decide +kernel
theorem dL_law_381 : decode cL_law 381 = .ok (.iaload, 1) := by decide +kernel
theorem dL_law_382 : decode cL_law 382 = .ok (.invokevirtual 68, 3) := by decide +kernel
theorem dL_law_385 : decode cL_law 385 = .ok (.pop, 1) := by decide +kernel
theorem dL_law_386 : decode cL_law 386 = .ok (.goto 85, 3) := by decide +kernel
theorem dL_law_389 : decode cL_law 389 = .ok (.aload_n 1, 1) := by decide +kernel
theorem dL_law_390 : decode cL_law 390 = .ok (.aload_n 0, 1) := by decide +kernel
theorem dL_law_391 : decode cL_law 391 = .ok (.iload_n 3, 1) := by decide +kernel
theorem dL_law_392 : decode cL_law 392 = .ok (.iconst 1, 1) := by decide +kernel
theorem dL_law_393 : decode cL_law 393 = .ok (.iadd, 1) := by decide +kernel
theorem dL_law_394 : decode cL_law 394 = .ok (.iaload, 1) := by decide +kernel
theorem dL_law_395 : decode cL_law 395 = .ok (.invokevirtual 69, 3) := by decide +kernel
theorem dL_law_398 : decode cL_law 398 = .ok (.pop, 1) := by decide +kernel
theorem dL_law_399 : decode cL_law 399 = .ok (.aload_n 2, 1) := by decide +kernel
theorem dL_law_400 : decode cL_law 400 = .ok (.aload_n 0, 1) := by decide +kernel
theorem dL_law_401 : decode cL_law 401 = .ok (.iload_n 3, 1) := by decide +kernel
theorem dL_law_402 : decode cL_law 402 = .ok (.iconst 1, 1) := by decide +kernel
theorem dL_law_403 : decode cL_law 403 = .ok (.iadd, 1) := by decide +kernel
theorem dL_law_404 : decode cL_law 404 = .ok (.iaload, 1) := by decide +kernel
theorem dL_law_405 : decode cL_law 405 = .ok (.invokevirtual 72, 3) := by decide +kernel
theorem dL_law_408 : decode cL_law 408 = .ok (.pop, 1) := by decide +kernel
theorem dL_law_409 : decode cL_law 409 = .ok (.goto 62, 3) := by decide +kernel
theorem dL_law_412 : decode cL_law 412 = .ok (.aload_n 1, 1) := by decide +kernel
theorem dL_law_413 : decode cL_law 413 = .ok (.aload_n 0, 1) := by decide +kernel
theorem dL_law_414 : decode cL_law 414 = .ok (.iload_n 3, 1) := by decide +kernel
theorem dL_law_415 : decode cL_law 415 = .ok (.iconst 1, 1) := by decide +kernel
theorem dL_law_416 : decode cL_law 416 = .ok (.iadd, 1) := by decide +kernel
theorem dL_law_417 : decode cL_law 417 = .ok (.iaload, 1) := by decide +kernel
theorem dL_law_418 : decode cL_law 418 = .ok (.invokevirtual 73, 3) := by decide +kernel
theorem dL_law_421 : decode cL_law 421 = .ok (.pop, 1) := by decide +kernel
theorem dL_law_422 : decode cL_law 422 = .ok (.aload_n 2, 1) := by decide +kernel
theorem dL_law_423 : decode cL_law 423 = .ok (.aload_n 0, 1) := by decide +kernel
theorem dL_law_424 : decode cL_law 424 = .ok (.iload_n 3, 1) := by decide +kernel
theorem dL_law_425 : decode cL_law 425 = .ok (.iconst 1, 1) := by decide +kernel
theorem dL_law_426 : decode cL_law 426 = .ok (.iadd, 1) := by decide +kernel
theorem dL_law_427 : decode cL_law 427 = .ok (.iaload, 1) := by decide +kernel
theorem dL_law_428 : decode cL_law 428 = .ok (.invokevirtual 76, 3) := by decide +kernel
theorem dL_law_431 : decode cL_law 431 = .ok (.pop, 1) := by decide +kernel
theorem dL_law_432 : decode cL_law 432 = .ok (.goto 39, 3) := by decide +kernel
theorem dL_law_435 : decode cL_law 435 = .ok (.aload_n 1, 1) := by decide +kernel
theorem dL_law_436 : decode cL_law 436 = .ok (.invokevirtual 77, 3) := by decide +kernel
theorem dL_law_439 : decode cL_law 439 = .ok (.pop, 1) := by decide +kernel
theorem dL_law_440 : decode cL_law 440 = .ok (.aload_n 2, 1) := by decide +kernel
theorem dL_law_441 : decode cL_law 441 = .ok (.invokevirtual 81, 3) := by decide +kernel
theorem dL_law_444 : decode cL_law 444 = .ok (.pop, 1) := by decide +kernel
theorem dL_law_445 : decode cL_law 445 = .ok (.goto 26, 3) := by decide +kernel
theorem dL_law_448 : decode cL_law 448 = .ok (.aload_n 1, 1) := by decide +kernel
theorem dL_law_449 : decode cL_law 449 = .ok (.aload_n 0, 1) := by decide +kernel
theorem dL_law_450 : decode cL_law 450 = .ok (.iload_n 3, 1) := by decide +kernel
theorem dL_law_451 : decode cL_law 451 = .ok (.iconst 1, 1) := by decide +kernel
theorem dL_law_452 : decode cL_law 452 = .ok (.iadd, 1) := by decide +kernel
theorem dL_law_453 : decode cL_law 453 = .ok (.iaload, 1) := by decide +kernel
theorem dL_law_454 : decode cL_law 454 = .ok (.invokevirtual 82, 3) := by decide +kernel
theorem dL_law_457 : decode cL_law 457 = .ok (.pop, 1) := by decide +kernel
theorem dL_law_458 : decode cL_law 458 = .ok (.aload_n 2, 1) := by decide +kernel
theorem dL_law_459 : decode cL_law 459 = .ok (.aload_n 0, 1) := by decide +kernel
theorem dL_law_460 : decode cL_law 460 = .ok (.iload_n 3, 1) := by decide +kernel
theorem dL_law_461 : decode cL_law 461 = .ok (.iconst 1, 1) := by decide +kernel
theorem dL_law_462 : decode cL_law 462 = .ok (.iadd, 1) := by decide +kernel
theorem dL_law_463 : decode cL_law 463 = .ok (.iaload, 1) := by decide +kernel
theorem dL_law_464 : decode cL_law 464 = .ok (.invokevirtual 85, 3) := by decide +kernel
theorem dL_law_467 : decode cL_law 467 = .ok (.pop, 1) := by decide +kernel
theorem dL_law_468 : decode cL_law 468 = .ok (.goto 3, 3) := by decide +kernel
theorem dL_law_471 : decode cL_law 471 = .ok (.iinc 3 4, 3) := by decide +kernel
theorem dL_law_474 : decode cL_law 474 = .ok (.goto (-426), 3) := by decide +kernel
theorem dL_law_477 : decode cL_law 477 = .ok (.iconst 1, 1) := by decide +kernel
theorem dL_law_478 : decode cL_law 478 = .ok (.ireturn, 1) := by decide +kernel
end
section
/-! GENERAL ROWS: one world of all cells, one set A of the addresses that may change, any rest behind the cells that a method knows -/
/-- the tables' words on nest mates, and on the arrays of arcs -/
def fq_N (U : State) : Prop := va_Nw (.fieldLinkNest RX1 142 "FloorQueue$Arc" "end" "I" "FloorQueue") U ∧ va_Nw (.fieldLinkNest RX1 145 "FloorQueue$Arc" "length" "I" "FloorQueue") U ∧ va_Nw (.fieldLinkNest RX1 138 "FloorQueue$Arc" "earlier" "LFloorQueue$Arc;" "FloorQueue") U ∧ va_Nw (.methodLinkNest RX1 99 yX0_init "FloorQueue") U ∧ va_AO "FloorQueue$Arc" U
theorem fq_N.warm {s U : State} (hW : s.WarmedH U.vm) (h : fq_N s) : fq_N U := ⟨h.1.warmF hW, h.2.1.warmF hW, h.2.2.1.warmF hW, h.2.2.2.1.warmM hW, h.2.2.2.2.moved hW.alike⟩
theorem fq_N.same {u U : State} (e : u.vm = U.vm) (h : fq_N u) : fq_N U := ⟨h.1.same rfl e, h.2.1.same rfl e, h.2.2.1.same rfl e, h.2.2.2.1.same rfl e, h.2.2.2.2.moved (e ▸ Vm.Alike.refl u.vm)⟩
def fx_Pre (D : va_G) (cl : List vw_C) (tys : List (ClassId × FieldType)) (A : Nat → Prop) (ws : va_W) (U : State) : Prop := (∀ q : Nat, U.heap.size ≤ q → A q) ∧ va_P D cl ws U.heap ∧ va_K D cl tys U ∧ va_D A ws ∧ fq_N U
def fx_B {S : Type} (D : va_G) (cl : List vw_C) (tys : List (ClassId × FieldType)) (A : Nat → Prop) (f : S → va_W) (u : S) (t : State) : Prop := va_P D cl (f u) t.heap ∧ va_K D cl tys t ∧ va_D A (f u)
theorem fx_blind {D : va_G} {cl : List vw_C} {tys : List (ClassId × FieldType)} {A : Nat → Prop} {ws : va_W} {av : List Value} : FrameBlind (va_Pc av (fx_Pre D cl tys A ws)) := fun a U g mk q => by
  obtain ⟨h0, h1, h2, h3, h4, h5⟩ := q
  exact ⟨h0, h1, h2, va_K.moved (u := U) (U := U.calling g mk a) (Vm.Alike.refl U.vm) h3, h4, h5.same rfl⟩
section FX
variable {p : Program} {l : Launch} {e : Env} {R : Room} {s : State} {m : MethodId} {args : Array Value} {below : List Frame} {meth : Method} {c : Code} {H H0 : Heap} {locs : List Loc} {cells slots : Nat} {Q : State → Prop} {D : va_G} {cl : List vw_C} {A : Nat → Prop} {tys : List (ClassId × FieldType)} {ws : va_W} {pc : Nat} {ls : Array Slot} {rest st0 : List Value}
variable {Ts w0 : List Cond} {cc bytes : ByteArray} {nL maxL index n mc ms : Nat} {own C : String} {y : MethodName} {ret : Option FieldType} {rm : Room} {b : Addr} {As : List Value}
theorem fx_pre {av : List Value} (hA : ∀ q : Nat, H0.size ≤ q → A q) (hS : va_S A H0 H locs) (hP : va_P D cl ws H) (hK : va_K D cl tys s) (hD : va_D A ws) (hN : fq_N s) : ∀ U : State, U.heap = H → s.WarmedH U.vm → va_Pc av (fx_Pre D cl tys A ws) av.toArray U := fun U hU hW => ⟨rfl, by rw [hU]; exact fun q h => hA q (Nat.le_trans hS.1 h), by rw [hU]; exact hP, va_K.moved hW.alike hK, hD, hN.warm hW⟩
theorem fx_iret {S : Type} {post : Int32 → S → Prop} {f : S → va_W} {v : Int32} (hx : p.tables.exec = Jvm.exec) (hb : c.code = cc) (hr : meth.sig.returnType = some .int) (hlocks : meth.locks = false) (hK : va_K D cl tys s) (hS : va_S A s.heap H locs) (hdg : decode cc pc = .ok (.ireturn, 1)) (u : S) (hp : post v u) (hP : va_P D cl (f u) H) (hD : va_D A (f u)) : W p l e R s m args below meth c H locs cells slots (MQ below (va_Qi post (fx_B D cl tys A f) A) args s cells slots A) (F0 m pc ls [.int v]) :=
  W.iret hx hb hr (fun t ht hW => ⟨⟨v, u, rfl, hp, by rw [ht]; exact hP, va_K.moved hW.alike hK, hD⟩, hS.F ht⟩) hS.2.2 hdg hlocks
theorem fx_vret {S : Type} {post : S → Prop} {f : S → va_W} (hx : p.tables.exec = Jvm.exec) (hb : c.code = cc) (hr : meth.sig.returnType = none) (hlocks : meth.locks = false) (hK : va_K D cl tys s) (hS : va_S A s.heap H locs) (hdg : decode cc pc = .ok (.return_, 1)) (u : S) (hp : post u) (hP : va_P D cl (f u) H) (hD : va_D A (f u)) : W p l e R s m args below meth c H locs cells slots (MQ below (va_Qv post (fx_B D cl tys A f) A) args s cells slots A) (F0 m pc ls []) :=
  W.vret hx hb hr (fun t ht hW => ⟨⟨u, rfl, hp, by rw [ht]; exact hP, va_K.moved hW.alike hK, hD⟩, hS.F ht⟩) hS.2.2 hdg hlocks
/-- a read: nothing has changed -/
theorem fx_sret {post : Int32 → Prop} {v : Int32} (hx : p.tables.exec = Jvm.exec) (hb : c.code = cc) (hr : meth.sig.returnType = some .int) (hlocks : meth.locks = false) (hdg : decode cc pc = .ok (.ireturn, 1)) (hp : post v) : W p l e R s m args below meth c s.heap [] cells slots (MQ below (vp_Si post) args s cells slots (fun _ => False)) (F0 m pc ls [.int v]) :=
  W.iret hx hb hr (fun t ht hW => ⟨v, rfl, hp, ht⟩) (fun q h => absurd h List.not_mem_nil) hdg hlocks
theorem fx_bret {post : Int32 → Prop} {v : Int32} (hx : p.tables.exec = Jvm.exec) (hb : c.code = cc) (hr : meth.sig.returnType = some .boolean) (hv : v = 0 ∨ v = 1) (hlocks : meth.locks = false) (hdg : decode cc pc = .ok (.ireturn, 1)) (hp : post v) : W p l e R s m args below meth c s.heap [] cells slots (MQ below (vp_Si post) args s cells slots (fun _ => False)) (F0 m pc ls [.int v]) :=
  W.zret hx hb hr (by rcases hv with h | h <;> subst h <;> rfl) (fun t ht hW => ⟨v, rfl, hp, ht⟩) (fun q h => absurd h List.not_mem_nil) hdg hlocks
/-- calls of the object's own kind -/
theorem fx_Vi {S : Type} {post : Int32 → S → Prop} {f : S → va_W} (hM : Met l y w0 rm (va_Pc (.ref b :: As) (fx_Pre D cl tys A ws)) (va_Qi post (fx_B D cl tys A f) A) mc ms A) (F : CallFix p m c cc nL s args Ts own) (cw : CallW R s args own C index y bytes maxL ret w0 rm mc ms n) (hA : ∀ q : Nat, H0.size ≤ q → A q) (hS : va_S A H0 H locs) (hP : va_P D cl ws H) (hK : va_K D cl tys s) (hD : va_D A ws) (hN : fq_N s) (q0 ci : Nat) {T : u_T} {N : Nat} {fs : List Value} (he : ws[q0]? = some (b, .inr (ci, fs))) (hc : cl[ci]? = some (C, T, N)) (hn : As.length = n) (hl : ls.size = nL) (hst : st0 = As.reverse ++ .ref b :: rest) (hW : (rest.map fun v => v.category).sum ≤ 8) (hdg : decode cc pc = .ok (.invokevirtual index, 3)) (hf : cells + mc ≤ R.cells ∧ slots + ms ≤ R.slots)
    (kk : ∀ (r : Int32) (u : S) (H1 : Heap) (locs1 : List Loc), post r u → va_P D cl (f u) H1 → va_D A (f u) → va_S A H0 H1 locs1 → W p l e R s m args below meth c H1 locs1 (cells + mc) (slots + ms) Q (F0 m (pc + 3) ls (.int r :: rest))) : W p l e R s m args below meth c H locs cells slots Q (F0 m pc ls st0) :=
  va_calli (va_runV (As := As) (rest := rest) F hM cw ⟨fx_blind, va_recv hK hP hc he, fx_pre hA hS hP hK hD hN⟩ rfl hn hl hst (lv_room hW) hdg hf) hS (fun _ _ h => h) (fun _ h => h) (fun r u t H1 locs1 ht _ hp hB _ _ hS1 => kk r u H1 locs1 hp (by rw [← ht]; exact hB.1) hB.2.2 hS1)
theorem fx_Vv {S : Type} {post : S → Prop} {f : S → va_W} (hM : Met l y w0 rm (va_Pc (.ref b :: As) (fx_Pre D cl tys A ws)) (va_Qv post (fx_B D cl tys A f) A) mc ms A) (F : CallFix p m c cc nL s args Ts own) (cw : CallW R s args own C index y bytes maxL ret w0 rm mc ms n) (hA : ∀ q : Nat, H0.size ≤ q → A q) (hS : va_S A H0 H locs) (hP : va_P D cl ws H) (hK : va_K D cl tys s) (hD : va_D A ws) (hN : fq_N s) (q0 ci : Nat) {T : u_T} {N : Nat} {fs : List Value} (he : ws[q0]? = some (b, .inr (ci, fs))) (hc : cl[ci]? = some (C, T, N)) (hn : As.length = n) (hl : ls.size = nL) (hst : st0 = As.reverse ++ .ref b :: rest) (hW : (rest.map fun v => v.category).sum ≤ 8) (hdg : decode cc pc = .ok (.invokevirtual index, 3)) (hf : cells + mc ≤ R.cells ∧ slots + ms ≤ R.slots)
    (kk : ∀ (u : S) (H1 : Heap) (locs1 : List Loc), post u → va_P D cl (f u) H1 → va_D A (f u) → va_S A H0 H1 locs1 → W p l e R s m args below meth c H1 locs1 (cells + mc) (slots + ms) Q (F0 m (pc + 3) ls rest)) : W p l e R s m args below meth c H locs cells slots Q (F0 m pc ls st0) :=
  va_callv (va_runV (As := As) (rest := rest) F hM cw ⟨fx_blind, va_recv hK hP hc he, fx_pre hA hS hP hK hD hN⟩ rfl hn hl hst (lv_room hW) hdg hf) hS (fun _ _ h => h) (fun _ h => h) (fun u t H1 locs1 ht _ hp hB _ _ hS1 => kk u H1 locs1 hp (by rw [← ht]; exact hB.1) hB.2.2 hS1)
/-- a read of the object -/
theorem fx_Vs {post : Int32 → Prop} (hM : Met l y w0 rm (va_Pc (.ref b :: As) (fx_Pre D cl tys A ws)) (vp_Si post) 0 0 (fun _ => False)) (F : CallFix p m c cc nL s args Ts own) (cw : CallW R s args own C index y bytes maxL ret w0 rm 0 0 n) (hA : ∀ q : Nat, H0.size ≤ q → A q) (hS : va_S A H0 H locs) (hP : va_P D cl ws H) (hK : va_K D cl tys s) (hD : va_D A ws) (hN : fq_N s) (q0 ci : Nat) {T : u_T} {N : Nat} {fs : List Value} (he : ws[q0]? = some (b, .inr (ci, fs))) (hc : cl[ci]? = some (C, T, N)) (hn : As.length = n) (hl : ls.size = nL) (hst : st0 = As.reverse ++ .ref b :: rest) (hW : (rest.map fun v => v.category).sum ≤ 8) (hdg : decode cc pc = .ok (.invokevirtual index, 3)) (hf : cells ≤ R.cells ∧ slots ≤ R.slots)
    (kk : ∀ r : Int32, post r → W p l e R s m args below meth c H locs cells slots Q (F0 m (pc + 3) ls (.int r :: rest))) : W p l e R s m args below meth c H locs cells slots Q (F0 m pc ls st0) :=
  vp_callSi (W.runV (As := As) (rest := rest) F hM cw ⟨fx_blind, va_recv hK hP hc he, fx_pre hA hS hP hK hD hN⟩ rfl hn hl hst (lv_room hW) hdg hf) kk
/-- static calls -/
theorem fx_Sv {S : Type} {post : S → Prop} {f : S → va_W} (hM : Met l y w0 rm (va_Pc As (fx_Pre D cl tys A ws)) (va_Qv post (fx_B D cl tys A f) A) mc ms A) (F : CallFix p m c cc nL s args Ts own) (cw : CallB R s args own index y bytes maxL ret w0 rm mc ms n ∧ (Cond.static y).before args s = true) (hA : ∀ q : Nat, H0.size ≤ q → A q) (hS : va_S A H0 H locs) (hP : va_P D cl ws H) (hK : va_K D cl tys s) (hD : va_D A ws) (hN : fq_N s) (hn : As.length = n) (hl : ls.size = nL) (hst : st0 = As.reverse ++ rest) (hW : (rest.map fun v => v.category).sum ≤ 8) (hdg : decode cc pc = .ok (.invokestatic index, 3)) (hf : cells + mc ≤ R.cells ∧ slots + ms ≤ R.slots)
    (kk : ∀ (u : S) (H1 : Heap) (locs1 : List Loc), post u → va_P D cl (f u) H1 → va_D A (f u) → va_S A H0 H1 locs1 → W p l e R s m args below meth c H1 locs1 (cells + mc) (slots + ms) Q (F0 m (pc + 3) ls rest)) : W p l e R s m args below meth c H locs cells slots Q (F0 m pc ls st0) :=
  va_callv (va_runS (As := As) (rest := rest) F hM cw ⟨fx_blind, fx_pre hA hS hP hK hD hN⟩ rfl hn hl hst (lv_room hW) hdg hf) hS (fun _ _ h => h) (fun _ h => h) (fun u t H1 locs1 ht _ hp hB _ _ hS1 => kk u H1 locs1 hp (by rw [← ht]; exact hB.1) hB.2.2 hS1)
/-- a static method that reads nothing -/
theorem fx_Ss {post : Int32 → Prop} (hM : Met l y w0 rm (va_Pc As (fun _ => True)) (vp_Si post) 0 0 (fun _ => False)) (F : CallFix p m c cc nL s args Ts own) (cw : CallB R s args own index y bytes maxL ret w0 rm 0 0 n ∧ (Cond.static y).before args s = true) (hn : As.length = n) (hl : ls.size = nL) (hst : st0 = As.reverse ++ rest) (hW : (rest.map fun v => v.category).sum ≤ 8) (hdg : decode cc pc = .ok (.invokestatic index, 3)) (hf : cells ≤ R.cells ∧ slots ≤ R.slots)
    (kk : ∀ r : Int32, post r → W p l e R s m args below meth c H locs cells slots Q (F0 m (pc + 3) ls (.int r :: rest))) : W p l e R s m args below meth c H locs cells slots Q (F0 m pc ls st0) :=
  vp_callSi (W.runS (As := As) (rest := rest) F hM cw ⟨fun _ _ _ _ q => q, fun _ _ _ => ⟨rfl, trivial⟩⟩ rfl hn hl hst (lv_room hW) hdg hf) kk
/-- constructors -/
theorem fx_Iv {S : Type} {post : S → Prop} {f : S → va_W} (hM : Met l y w0 rm (va_Pc (.ref b :: As) (fx_Pre D cl tys A ws)) (va_Qv post (fx_B D cl tys A f) A) mc ms A) (F : CallFix p m c cc nL s args Ts own) (cw : CallB R s args own index y bytes maxL none w0 rm mc ms n ∧ y.name = "<init>" ∧ (Cond.instanceMethod y).before args s = true) (hA : ∀ q : Nat, H0.size ≤ q → A q) (hS : va_S A H0 H locs) (hP : va_P D cl ws H) (hK : va_K D cl tys s) (hD : va_D A ws) (hN : fq_N s) (hn : As.length = n) (hl : ls.size = nL) (hst : st0 = As.reverse ++ .ref b :: rest) (hW : (rest.map fun v => v.category).sum ≤ 8) (hdg : decode cc pc = .ok (.invokespecial index, 3)) (hf : cells + mc ≤ R.cells ∧ slots + ms ≤ R.slots)
    (kk : ∀ (u : S) (H1 : Heap) (locs1 : List Loc), post u → va_P D cl (f u) H1 → va_D A (f u) → va_S A H0 H1 locs1 → W p l e R s m args below meth c H1 locs1 (cells + mc) (slots + ms) Q (F0 m (pc + 3) ls rest)) : W p l e R s m args below meth c H locs cells slots Q (F0 m pc ls st0) :=
  va_callv (va_runI (As := As) (rest := rest) F hM cw ⟨fx_blind, fx_pre hA hS hP hK hD hN⟩ rfl hn hl hst (lv_room hW) hdg hf) hS (fun _ _ h => h) (fun _ h => h) (fun u t H1 locs1 ht _ hp hB _ _ hS1 => kk u H1 locs1 hp (by rw [← ht]; exact hB.1) hB.2.2 hS1)
end FX
section FXA
variable {p : Program} {l : Launch} {e : Env} {R : Room} {s : State} {m : MethodId} {args : Array Value} {below : List Frame} {meth : Method} {c : Code} {H H0 : Heap} {locs : List Loc} {cells slots : Nat} {Q : State → Prop} {D : va_G} {cl : List vw_C} {A : Nat → Prop} {tys : List (ClassId × FieldType)} {ws : va_W} {pc : Nat} {ls : Array Slot} {rest : List Value} {cc : ByteArray} {a : Nat} {cA : ClassId}
/-- arrays at a place that is a number -/
theorem fx_ald (hx : p.tables.exec = Jvm.exec) (hb : c.code = cc) (hK : va_K D cl tys s) (hP : va_P D cl ws H) (q0 t0 : Nat) {n : Nat} {f : Nat → Int32} (ha : ws[q0]? = some (a, .inl (cA, n, .inl f))) (ht : tys[t0]? = some (cA, .int)) {i : Int32} (k : Nat) (hi : i = nI k) (hk : k < n) (hn : n < 2 ^ 31) (hdg : decode cc pc = .ok (.iaload, 1))
    (kk : W p l e R s m args below meth c H locs cells slots Q (F0 m (pc + 1) ls (.int (f k) :: rest))) : W p l e R s m args below meth c H locs cells slots Q (F0 m pc ls (.int i :: .ref a :: rest)) := by
  subst hi
  exact va_iald hx hb hK hP q0 t0 ha ht (vp_in_nI hk hn) hdg (by rw [nI_clamp (Nat.lt_trans hk hn)]; exact kk)
theorem fx_ast (hx : p.tables.exec = Jvm.exec) (hb : c.code = cc) (hK : va_K D cl tys s) (hP : va_P D cl ws H) (hD : va_D A ws) (hS : va_S A H0 H locs) (q0 t0 : Nat) {n : Nat} {f : Nat → Int32} (ha : ws[q0]? = some (a, .inl (cA, n, .inl f))) (ht : tys[t0]? = some (cA, .int)) {i x : Int32} (k : Nat) (hi : i = nI k) (hk : k < n) (hn : n < 2 ^ 31) (hdg : decode cc pc = .ok (.iastore, 1))
    (kk : ∀ (H1 : Heap) (locs1 : List Loc), va_P D cl (ws.set q0 (a, .inl (cA, n, .inl (upd f k x)))) H1 → va_D A (ws.set q0 (a, .inl (cA, n, .inl (upd f k x)))) → va_S A H0 H1 locs1 → W p l e R s m args below meth c H1 locs1 cells slots Q (F0 m (pc + 1) ls rest)) : W p l e R s m args below meth c H locs cells slots Q (F0 m pc ls (.int x :: .int i :: .ref a :: rest)) := by
  subst hi
  refine va_iast hx hb hK hP hD hS q0 t0 ha ht (vp_in_nI hk hn) hdg fun H1 locs1 h1 h2 h3 => ?_
  rw [nI_clamp (Nat.lt_trans hk hn)] at h1 h2
  exact kk H1 locs1 h1 h2 h3
theorem fx_aldq (hx : p.tables.exec = Jvm.exec) (hb : c.code = cc) (hK : va_K D cl tys s) (hP : va_P D cl ws H) (q0 t0 : Nat) {C : String} {n : Nat} {f : Nat → Option Nat} (ha : ws[q0]? = some (a, .inl (cA, n, .inr (.inr (.inr (.inr f)))))) (ht : tys[t0]? = some (cA, .object C)) {i : Int32} (k : Nat) (hi : i = nI k) (hk : k < n) (hn : n < 2 ^ 31) (hdg : decode cc pc = .ok (.aaload, 1))
    (kk : W p l e R s m args below meth c H locs cells slots Q (F0 m (pc + 1) ls (va_rf (f k) :: rest))) : W p l e R s m args below meth c H locs cells slots Q (F0 m pc ls (.int i :: .ref a :: rest)) := by
  subst hi
  exact va_aldq hx hb hK hP q0 t0 ha ht (vp_in_nI hk hn) hdg (by rw [nI_clamp (Nat.lt_trans hk hn)]; exact kk)
theorem fx_astq (hx : p.tables.exec = Jvm.exec) (hb : c.code = cc) (hK : va_K D cl tys s) (hP : va_P D cl ws H) (hD : va_D A ws) (hS : va_S A H0 H locs) (q0 t0 qk ci : Nat) {r : vw_C} {n v : Nat} {vs : List Value} {f : Nat → Option Nat} (ha : ws[q0]? = some (a, .inl (cA, n, .inr (.inr (.inr (.inr f)))))) (ht : tys[t0]? = some (cA, .object r.1)) (hv : ws[qk]? = some (v, .inr (ci, vs))) (hc : cl[ci]? = some r) {i : Int32} (k : Nat) (hi : i = nI k) (hk : k < n) (hn : n < 2 ^ 31) (hdg : decode cc pc = .ok (.aastore, 1))
    (kk : ∀ (H1 : Heap) (locs1 : List Loc), va_P D cl (ws.set q0 (a, .inl (cA, n, .inr (.inr (.inr (.inr (va_up f k (some v)))))))) H1 → va_D A (ws.set q0 (a, .inl (cA, n, .inr (.inr (.inr (.inr (va_up f k (some v)))))))) → va_S A H0 H1 locs1 → W p l e R s m args below meth c H1 locs1 cells slots Q (F0 m (pc + 1) ls rest)) : W p l e R s m args below meth c H locs cells slots Q (F0 m pc ls (.ref v :: .int i :: .ref a :: rest)) := by
  subst hi
  refine va_astq hx hb hK hP hD hS q0 t0 qk ci ha ht hv hc (vp_in_nI hk hn) hdg fun H1 locs1 h1 h2 h3 => ?_
  rw [nI_clamp (Nat.lt_trans hk hn)] at h1 h2
  exact kk H1 locs1 h1 h2 h3
theorem fx_is {x y : Int32} (h : x = y) (k : W p l e R s m args below meth c H locs cells slots Q (F0 m pc ls (.int y :: rest))) : W p l e R s m args below meth c H locs cells slots Q (F0 m pc ls (.int x :: rest)) := by
  subst h
  exact k
end FXA
section FXL
variable {p : Program} {l : Launch} {e : Env} {R : Room} {s : State} {m : MethodId} {args : Array Value} {below : List Frame} {meth : Method} {c : Code} {H : Heap} {locs : List Loc} {cells slots : Nat} {Q : State → Prop} {pc : Nat} {ls : Array Slot} {rest : List Value} {cc : ByteArray}
/-- a reference that may be null into a local -/
theorem fx_astore_nq (hx : p.tables.exec = Jvm.exec) (hb : c.code = cc) {k : Fin 4} {i nL : Nat} {r : Option Nat} {lv lv' : List (Nat × Value)} (hdg : decode cc pc = .ok (.astore_n k, 1)) (hi : (k : Nat) = i) (h : lv_has ls nL lv) (hn : i < nL) (hl : (i, va_rf r) :: lv.filter (fun q => !(q.1 == i) && !(q.1 + 1 == i && q.2.category == 2)) = lv')
    (kk : ∀ ls' : Array Slot, lv_has ls' nL lv' → W p l e R s m args below meth c H locs cells slots Q (F0 m (pc + 1) ls' rest)) : W p l e R s m args below meth c H locs cells slots Q (F0 m pc ls (va_rf r :: rest)) := by
  cases r with
  | none => exact lv_astore_nN hx hb hdg hi h hn hl kk
  | some a => exact lv_astore_n hx hb hdg hi h hn hl kk
end FXL
theorem fq_sameI {D : va_G} {cl : List vw_C} {tys : List (ClassId × FieldType)} {U : State} (h : va_K D cl tys U) {i j : Nat} {a b : ClassId} {ty : FieldType} (hi : tys[i]? = some (a, ty)) (hj : tys[j]? = some (b, ty)) (ht : ∀ C, ty ≠ .object C) : a = b := by
  have h1 := (h.2 i _ hi).2
  have h2 := (h.2 j _ hj).2
  cases ty with
  | object C => exact absurd rfl (ht C)
  | _ => exact Option.some.inj (h1.symm.trans h2)
theorem fq_sameO {D : va_G} {cl : List vw_C} {tys : List (ClassId × FieldType)} {U : State} (h : va_K D cl tys U) {i j : Nat} {a b : ClassId} {C : String} (hi : tys[i]? = some (a, .object C)) (hj : tys[j]? = some (b, .object C)) : a = b := by
  obtain ⟨_, _, _, _, _, h1⟩ := (h.2 i _ hi).2
  obtain ⟨_, _, _, _, _, h2⟩ := (h.2 j _ hj).2
  exact Option.some.inj (h1.symm.trans h2)
theorem fx_lgt {x y : Int64} : 0 < lg_cmp x y ↔ y < x := by
  unfold lg_cmp
  by_cases h1 : y < x
  · simp [h1]
  · by_cases h2 : x = y
    · subst h2; simp
    · simp [h1, h2]
theorem fx_lle {x y : Int64} : lg_cmp x y ≤ 0 ↔ ¬ y < x := by
  unfold lg_cmp
  by_cases h1 : y < x
  · simp [h1]
  · by_cases h2 : x = y
    · subst h2; simp
    · simp [h1, h2]
theorem fx_lge {x y : Int64} : 0 ≤ lg_cmp x y ↔ ¬ x < y := by
  unfold lg_cmp
  by_cases h1 : y < x
  · have : ¬ x < y := fun h => Int64.lt_irrefl (Int64.lt_trans h h1)
    simp [h1, this]
  · by_cases h2 : x = y
    · subst h2; simp
    · have : x < y := Int64.lt_of_le_of_ne (Int64.not_lt.mp h1) h2
      simp [h1, h2, this]
section FXN
variable {p : Program} {l : Launch} {e : Env} {R : Room} {s : State} {m : MethodId} {args : Array Value} {below : List Frame} {meth : Method} {c : Code} {H H0 : Heap} {locs : List Loc} {cells slots : Nat} {Q : State → Prop} {D : va_G} {cl : List vw_C} {A : Nat → Prop} {tys : List (ClassId × FieldType)} {ws : va_W} {pc : Nat} {ls : Array Slot} {rest st0 : List Value}
variable {Ts w0 : List Cond} {cc bytes : ByteArray} {nL maxL index n mc ms : Nat} {own C host : String} {y : MethodName} {ret : Option FieldType} {rm : Room} {b : Addr} {As : List Value}
/-- a nest mate's constructor -/
theorem fx_IN {S : Type} {post : S → Prop} {f : S → va_W} (hM : Met l y w0 rm (va_Pc (.ref b :: As) (fx_Pre D cl tys A ws)) (va_Qv post (fx_B D cl tys A f) A) mc ms A) (F : CallFix p m c cc nL s args Ts own) (cw : va_CN R s args own index y host bytes maxL none w0 rm mc ms n ∧ y.name = "<init>" ∧ (Cond.instanceMethod y).before args s = true) (hA : ∀ q : Nat, H0.size ≤ q → A q) (hS : va_S A H0 H locs) (hP : va_P D cl ws H) (hK : va_K D cl tys s) (hD : va_D A ws) (hN : fq_N s) (hn : As.length = n) (hl : ls.size = nL) (hst : st0 = As.reverse ++ .ref b :: rest) (hW : (rest.map fun v => v.category).sum ≤ 8) (hdg : decode cc pc = .ok (.invokespecial index, 3)) (hf : cells + mc ≤ R.cells ∧ slots + ms ≤ R.slots)
    (kk : ∀ (u : S) (H1 : Heap) (locs1 : List Loc), post u → va_P D cl (f u) H1 → va_D A (f u) → va_S A H0 H1 locs1 → W p l e R s m args below meth c H1 locs1 (cells + mc) (slots + ms) Q (F0 m (pc + 3) ls rest)) : W p l e R s m args below meth c H locs cells slots Q (F0 m pc ls st0) :=
  va_callv (va_runIN (As := As) (rest := rest) F hM cw ⟨fx_blind, fx_pre hA hS hP hK hD hN⟩ rfl hn hl hst (lv_room hW) hdg hf) hS (fun _ _ h => h) (fun _ h => h) (fun u t H1 locs1 ht _ hp hB _ _ hS1 => kk u H1 locs1 hp (by rw [← ht]; exact hB.1) hB.2.2 hS1)
end FXN
section FXZ
variable {p : Program} {l : Launch} {e : Env} {R : Room} {s : State} {m : MethodId} {args : Array Value} {below : List Frame} {meth : Method} {c : Code} {H H0 : Heap} {locs : List Loc} {cells slots : Nat} {Q : State → Prop} {D : va_G} {cl : List vw_C} {A : Nat → Prop} {tys : List (ClassId × FieldType)} {ws : va_W} {pc : Nat} {ls : Array Slot} {rest : List Value} {cc : ByteArray} {a : Nat} {cA : ClassId}
/-- rows of booleans -/
theorem fx_zald (hx : p.tables.exec = Jvm.exec) (hb : c.code = cc) (hK : va_K D cl tys s) (hP : va_P D cl ws H) (q0 t0 : Nat) {n : Nat} {f : Nat → Int32} (ha : ws[q0]? = some (a, .inl (cA, n, .inl f))) (ht : tys[t0]? = some (cA, .boolean)) {i : Int32} (k : Nat) (hi : i = nI k) (hk : k < n) (hn : n < 2 ^ 31) (hdg : decode cc pc = .ok (.baload, 1))
    (kk : W p l e R s m args below meth c H locs cells slots Q (F0 m (pc + 1) ls (.int (f k) :: rest))) : W p l e R s m args below meth c H locs cells slots Q (F0 m pc ls (.int i :: .ref a :: rest)) := by
  subst hi
  exact va_zald hx hb hK hP q0 t0 ha ht (vp_in_nI hk hn) hdg (by rw [nI_clamp (Nat.lt_trans hk hn)]; exact kk)
theorem fx_zast (hx : p.tables.exec = Jvm.exec) (hb : c.code = cc) (hK : va_K D cl tys s) (hP : va_P D cl ws H) (hD : va_D A ws) (hS : va_S A H0 H locs) (q0 t0 : Nat) {n : Nat} {f : Nat → Int32} (ha : ws[q0]? = some (a, .inl (cA, n, .inl f))) (ht : tys[t0]? = some (cA, .boolean)) {i x : Int32} (k : Nat) (hi : i = nI k) (hk : k < n) (hn : n < 2 ^ 31) (hv : vp_nar .boolean x = x) (hdg : decode cc pc = .ok (.bastore, 1))
    (kk : ∀ (H1 : Heap) (locs1 : List Loc), va_P D cl (ws.set q0 (a, .inl (cA, n, .inl (upd f k x)))) H1 → va_D A (ws.set q0 (a, .inl (cA, n, .inl (upd f k x)))) → va_S A H0 H1 locs1 → W p l e R s m args below meth c H1 locs1 cells slots Q (F0 m (pc + 1) ls rest)) : W p l e R s m args below meth c H locs cells slots Q (F0 m pc ls (.int x :: .int i :: .ref a :: rest)) := by
  subst hi
  refine va_zast hx hb hK hP hD hS q0 t0 ha ht (vp_in_nI hk hn) hdg fun H1 locs1 h1 h2 h3 => ?_
  rw [nI_clamp (Nat.lt_trans hk hn), hv] at h1 h2
  exact kk H1 locs1 h1 h2 h3
end FXZ
end
section
/-! BIT LENGTHS AND BUCKETS: pure rows -/
def fqbl (x : Nat) : Nat := if x = 0 then 0 else x.log2 + 1
theorem fqbl_le (x k : Nat) : fqbl x ≤ k ↔ x < 2 ^ k := by
  unfold fqbl
  by_cases h : x = 0
  · subst h
    simp [Nat.two_pow_pos]
  · rw [if_neg h, ← Nat.log2_lt h]
    omega
theorem fqbl_0 : fqbl 0 = 0 := rfl
theorem fq_xor0 {a b : Nat} (h : a ^^^ b = 0) : a = b := by
  apply Nat.eq_of_testBit_eq
  intro i
  have h1 : (a ^^^ b).testBit i = false := by rw [h]; exact Nat.zero_testBit i
  rw [Nat.testBit_xor] at h1
  cases ha : a.testBit i <;> cases hb : b.testBit i <;> simp_all
/-- the bucket is at most k: the bits from k on are the floor's -/
theorem fqbx_le (a f k : Nat) : fqbl (a ^^^ f) ≤ k ↔ a / 2 ^ k = f / 2 ^ k := by
  rw [fqbl_le]
  constructor
  · intro h
    have h1 : (a ^^^ f) / 2 ^ k = 0 := Nat.div_eq_of_lt h
    rw [Nat.xor_div_two_pow] at h1
    exact fq_xor0 h1
  · intro h
    have h1 : (a ^^^ f) / 2 ^ k = 0 := by rw [Nat.xor_div_two_pow, h, Nat.xor_self]
    exact (Nat.div_eq_zero_iff_lt (Nat.two_pow_pos k)).mp h1
theorem fqbx_0 (a f : Nat) : fqbl (a ^^^ f) = 0 ↔ a = f := by
  have h := fqbx_le a f 0
  simp at h
  omega
theorem fqbx_31 {a f : Nat} (ha : a < 2 ^ 31) (hf : f < 2 ^ 31) : fqbl (a ^^^ f) ≤ 31 := (fqbl_le _ _).mpr (Nat.xor_lt_two_pow ha hf)
/-- a lower bucket has lower keys -/
theorem fqbx_lt {a b f : Nat} (hb : f ≤ b) (h : fqbl (a ^^^ f) < fqbl (b ^^^ f)) : a < b := by
  have h1 := (fqbx_le a f (fqbl (a ^^^ f))).mp (Nat.le_refl _)
  have h2 : ¬ b / 2 ^ fqbl (a ^^^ f) = f / 2 ^ fqbl (a ^^^ f) := fun q => by
    have := (fqbx_le b f (fqbl (a ^^^ f))).mpr q
    omega
  have h3 : f / 2 ^ fqbl (a ^^^ f) ≤ b / 2 ^ fqbl (a ^^^ f) := Nat.div_le_div_right hb
  rcases Nat.lt_or_ge a b with q | q
  · exact q
  · have := Nat.div_le_div_right (c := 2 ^ fqbl (a ^^^ f)) q
    omega
theorem fqdiv_up {a f j k : Nat} (h : j ≤ k) (e : a / 2 ^ j = f / 2 ^ j) : a / 2 ^ k = f / 2 ^ k := by
  have h1 : 2 ^ k = 2 ^ j * 2 ^ (k - j) := by rw [← Nat.pow_add]; congr 1; omega
  rw [h1, ← Nat.div_div_eq_div_mul, ← Nat.div_div_eq_div_mul, e]
/-- the new floor lies in bucket b0 of the old one: a key in a higher bucket stays where it is -/
theorem fqbx_stay {k f g : Nat} (h : fqbl (g ^^^ f) < fqbl (k ^^^ f)) : fqbl (k ^^^ g) = fqbl (k ^^^ f) := by
  have hg := (fqbx_le g f (fqbl (g ^^^ f))).mp (Nat.le_refl _)
  have key : ∀ j, fqbl (k ^^^ g) ≤ j ↔ fqbl (k ^^^ f) ≤ j := by
    intro j
    rcases Nat.lt_or_ge j (fqbl (g ^^^ f)) with q | q
    · constructor
      · intro h1
        have h2 := fqdiv_up (Nat.le_of_lt q) ((fqbx_le k g j).mp h1)
        have h3 := (fqbx_le k f (fqbl (g ^^^ f))).mpr (h2.trans hg)
        omega
      · intro h1
        omega
    · rw [fqbx_le, fqbx_le, fqdiv_up q hg]
  have h1 := (key (fqbl (k ^^^ f))).mpr (Nat.le_refl _)
  have h2 := (key (fqbl (k ^^^ g))).mp (Nat.le_refl _)
  omega
/-- keys of the new floor's own bucket fall -/
theorem fqbx_fall {k f g b : Nat} (hg : f ≤ g) (hk : g ≤ k) (eg : fqbl (g ^^^ f) = b) (ek : fqbl (k ^^^ f) = b) (hb : 0 < b) : fqbl (k ^^^ g) < b := by
  obtain ⟨d, rfl⟩ : ∃ d, b = d + 1 := ⟨b - 1, by omega⟩
  have g1 := (fqbx_le g f (d + 1)).mp (by omega)
  have k1 := (fqbx_le k f (d + 1)).mp (by omega)
  have g2 : ¬ g / 2 ^ d = f / 2 ^ d := fun q => by have := (fqbx_le g f d).mpr q; omega
  have k2 : ¬ k / 2 ^ d = f / 2 ^ d := fun q => by have := (fqbx_le k f d).mpr q; omega
  have e : 2 ^ (d + 1) = 2 ^ d * 2 := Nat.pow_succ ..
  rw [e, ← Nat.div_div_eq_div_mul, ← Nat.div_div_eq_div_mul] at g1 k1
  have g3 : f / 2 ^ d ≤ g / 2 ^ d := Nat.div_le_div_right hg
  have k3 : f / 2 ^ d ≤ k / 2 ^ d := Nat.div_le_div_right (Nat.le_trans hg hk)
  have : k / 2 ^ d = g / 2 ^ d := by omega
  have := (fqbx_le k g d).mpr this
  omega
/-- a key that falls, but not below the floor: its bucket doesn't rise -/
theorem fqbx_mono {a b f : Nat} (ha : f ≤ a) (h : a ≤ b) : fqbl (a ^^^ f) ≤ fqbl (b ^^^ f) := by
  rcases Nat.lt_or_ge (fqbl (b ^^^ f)) (fqbl (a ^^^ f)) with q | q
  · have := fqbx_lt ha q
    omega
  · exact q
theorem fqbl_shift {x s : Nat} (h : 2 ^ s ≤ x) : fqbl x = fqbl (x / 2 ^ s) + s := by
  have key : ∀ j, fqbl x ≤ j + s ↔ fqbl (x / 2 ^ s) ≤ j := by
    intro j
    rw [fqbl_le, fqbl_le, Nat.pow_add, Nat.div_lt_iff_lt_mul (Nat.two_pow_pos s)]
  have hs : s < fqbl x := by
    rcases Nat.lt_or_ge s (fqbl x) with q | q
    · exact q
    · have := (fqbl_le x s).mp q
      omega
  have h1 := (key (fqbl (x / 2 ^ s))).mpr (Nat.le_refl _)
  have h2 := (key (fqbl x - s)).mp (by omega)
  omega
theorem fqbl_3 {x : Nat} (h0 : 0 < x) (h : x < 4) : fqbl x = 1 + x / 2 := by
  rcases (show x = 1 ∨ x = 2 ∨ x = 3 by omega) with rfl | rfl | rfl <;> decide
/-! COUNTS -/
def fqcnt (p : Nat → Bool) : Nat → Nat
  | 0 => 0
  | n + 1 => fqcnt p n + (if p n = true then 1 else 0)
theorem fqcnt_le (p : Nat → Bool) (n : Nat) : fqcnt p n ≤ n := by
  induction n with
  | zero => exact Nat.le_refl _
  | succ n ih =>
    unfold fqcnt
    split <;> omega
theorem fqcnt_eq {p q : Nat → Bool} {n : Nat} (h : ∀ i, i < n → p i = q i) : fqcnt p n = fqcnt q n := by
  induction n with
  | zero => rfl
  | succ n ih =>
    unfold fqcnt
    rw [ih (fun i hi => h i (by omega)), h n (by omega)]
theorem fqcnt_on {p q : Nat → Bool} {n j : Nat} (hj : j < n) (h0 : p j = false) (h1 : q j = true) (h : ∀ i, i < n → i ≠ j → p i = q i) : fqcnt q n = fqcnt p n + 1 := by
  induction n with
  | zero => omega
  | succ n ih =>
    unfold fqcnt
    rcases Nat.lt_or_ge j n with q1 | q1
    · rw [ih q1 (fun i hi => h i (by omega)), h n (by omega) (by omega)]
      omega
    · have e : j = n := by omega
      subst e
      rw [fqcnt_eq (p := p) (q := q) (fun i hi => h i (by omega) (by omega)), h0, h1]
      simp
theorem fqcnt_0 {p : Nat → Bool} {n : Nat} (h : ∀ i, i < n → p i = false) : fqcnt p n = 0 := by
  induction n with
  | zero => rfl
  | succ n ih =>
    unfold fqcnt
    rw [ih (fun i hi => h i (by omega)), h n (by omega)]
    simp
theorem fqcnt_pos {p : Nat → Bool} {n j : Nat} (hj : j < n) (h : p j = true) : 0 < fqcnt p n := by
  induction n with
  | zero => omega
  | succ n ih =>
    unfold fqcnt
    rcases Nat.lt_or_ge j n with q1 | q1
    · have := ih q1
      omega
    · have e : j = n := by omega
      subst e
      rw [h]
      simp
theorem fqcnt_ex {p : Nat → Bool} {n : Nat} (h : 0 < fqcnt p n) : ∃ j, j < n ∧ p j = true := by
  induction n with
  | zero => exact absurd h (Nat.lt_irrefl 0)
  | succ n ih =>
    unfold fqcnt at h
    by_cases q : p n = true
    · exact ⟨n, by omega, q⟩
    · rw [if_neg q] at h
      obtain ⟨j, h1, h2⟩ := ih h
      exact ⟨j, by omega, h2⟩
theorem nx_xor (a b : Nat) : nI a ^^^ nI b = nI (a ^^^ b) := by
  apply Int32.toBitVec_inj.1
  show BitVec.ofNat 32 a ^^^ BitVec.ofNat 32 b = BitVec.ofNat 32 (a ^^^ b)
  apply BitVec.eq_of_getLsbD_eq
  intro i hi
  simp [hi]
/-! THE CLASS AS PURE FUNCTIONS: the queue's part of the object: (floorKey, present, placings, keyings, keys, buckets, members) -/
abbrev fqQ : Type := Int32 × Int32 × Int32 × Int32 × (Nat → Int32) × (Nat → Int32) × (Nat → Int32)
def fqn (x : Int32) : Nat := x.toNatClampNeg
theorem fqn_nI {k : Nat} (h : k < 2 ^ 31) : fqn (nI k) = k := nI_clamp h
theorem fqn_lt (x : Int32) : fqn x < 2 ^ 31 := by
  have h1 := Int32.toInt_lt x
  show x.toInt.toNat < 2 ^ 31
  omega
theorem nI_fqn {x : Int32} (h : ¬ x < 0) : nI (fqn x) = x := by
  obtain ⟨j, h1, rfl⟩ := nI_of h
  rw [fqn_nI h1]
/-- the bucket of a key under a floor -/
def fqk (x f : Int32) : Nat := fqbl (fqn x ^^^ fqn f)
theorem fqk_lt (x f : Int32) : fqk x f < 32 := by
  have := fqbx_31 (fqn_lt x) (fqn_lt f)
  unfold fqk
  omega
def fqfill (n : Nat) (v : Int32) (f : Nat → Int32) : Nat → Int32 := fun j => if j < n then v else f j
def fqleave (q : fqQ) (j : Nat) : fqQ := match q with
  | (fl, pr, pg, ky, K, B, M) => if B j = -1 then (fl, pr, pg, ky, K, B, M) else (fl, pr, pg, ky, K, upd B j (-1), upd M (fqn (B j)) (M (fqn (B j)) - 1))
def fqput (q : fqQ) (j : Nat) : fqQ := match fqleave q j with
  | (fl, pr, pg, ky, K, B, M) => (fl, pr, pg + 1, ky, K, upd B j (nI (fqk (K j) fl)), upd M (fqk (K j) fl) (M (fqk (K j) fl) + 1))
def fqtake (q : fqQ) (j : Nat) : fqQ := match fqleave q j with
  | (fl, pr, pg, ky, K, B, M) => (fl, pr - 1, pg, ky, K, B, M)
def fqlow (M : Nat → Int32) : Nat → Nat → Option Nat
  | 0, _ => none
  | d + 1, i => if 0 < M i then some i else fqlow M d (i + 1)
def fqbest (K B : Nat → Int32) (b : Int32) : Nat → Nat → Option Nat → Option Nat
  | 0, _, a => a
  | d + 1, i, a => fqbest K B b d (i + 1) (match a with | none => (if B i ≠ -1 ∧ B i = b then some i else none) | some j => (if B i ≠ -1 ∧ B i = b ∧ K i < K j then some i else some j))
def fqspread (b : Int32) : Nat → Nat → fqQ → fqQ
  | 0, _, q => q
  | d + 1, i, q => fqspread b d (i + 1) (if q.2.2.2.2.2.1 i = b then fqput q i else q)
def fqopt (a : Option Nat) : Int32 := match a with
  | none => -1
  | some j => nI j
def fqat (n : Nat) (x : Int32) : Option Nat := if x < 0 then none else if nI n ≤ x then none else some (fqn x)
def fqpush (n : Nat) (q : fqQ) (x key : Int32) : Int32 × fqQ := match fqat n x with
  | none => (-1, q)
  | some j => if q.2.2.2.2.2.1 j = -1 then (if key < q.1 then (-2, q) else (0, fqput (q.1, q.2.1 + 1, q.2.2.1, q.2.2.2.1 + 1, upd q.2.2.2.2.1 j key, q.2.2.2.2.2.1, q.2.2.2.2.2.2) j)) else (-1, q)
def fqlow1 (q : fqQ) (j : Nat) (key : Int32) : fqQ := if nI (fqk key q.1) = q.2.2.2.2.2.1 j then (q.1, q.2.1, q.2.2.1, q.2.2.2.1 + 1, upd q.2.2.2.2.1 j key, q.2.2.2.2.2.1, q.2.2.2.2.2.2) else fqput (q.1, q.2.1, q.2.2.1, q.2.2.2.1 + 1, upd q.2.2.2.2.1 j key, q.2.2.2.2.2.1, q.2.2.2.2.2.2) j
def fqlower (n : Nat) (q : fqQ) (x key : Int32) : Int32 × fqQ := match fqat n x with
  | none => (-1, q)
  | some j => if q.2.2.2.2.2.1 j = -1 then (-1, q) else if key < q.1 then (-2, q) else if key ≤ q.2.2.2.2.1 j then (if q.2.2.2.2.1 j ≤ key then (0, q) else (0, fqlow1 q j key)) else (-2, q)
def fqpop (n : Nat) (q : fqQ) : Int32 × fqQ := match fqbest q.2.2.2.2.1 q.2.2.2.2.2.1 (fqopt (fqlow q.2.2.2.2.2.2 32 0)) n 0 none with
  | none => (-1, q)
  | some j => (nI j, fqtake (if fqopt (fqlow q.2.2.2.2.2.2 32 0) ≤ 0 then (q.2.2.2.2.1 j, q.2) else fqspread (fqopt (fqlow q.2.2.2.2.2.2 32 0)) n 0 (q.2.2.2.2.1 j, q.2)) j)
/-- what the walks need of the queue: places in range, no negative numbers -/
def fqB1 (q : fqQ) (j : Nat) : Prop := (q.2.2.2.2.2.1 j = -1 ∨ ∃ b, b < 32 ∧ q.2.2.2.2.2.1 j = nI b) ∧ (q.2.2.2.2.2.1 j ≠ -1 → ¬ q.2.2.2.2.1 j < 0)
def fqS (n : Nat) (q : fqQ) : Prop := ¬ q.1 < 0 ∧ ∀ j, j < n → fqB1 q j
theorem fq_nm1 {j : Nat} (h : j < 2 ^ 31) : nI j ≠ -1 := fun e => by
  have h1 := nI_pos h
  rw [e] at h1
  exact h1 (by decide)
theorem fqat_some {n j : Nat} (hj : j < n) (hn : n < 2 ^ 31) : fqat n (nI j) = some j := by
  unfold fqat
  rw [if_neg (nI_pos (by omega)), if_neg (nI_ge hj hn), fqn_nI (by omega)]
theorem fqat_none {n : Nat} {x : Int32} (hn : n < 2 ^ 31) (h : ∀ j, j < n → x ≠ nI j) : fqat n x = none := by
  unfold fqat
  by_cases h1 : x < 0
  · rw [if_pos h1]
  · rw [if_neg h1]
    by_cases h2 : nI n ≤ x
    · rw [if_pos h2]
    · obtain ⟨j, hj, e⟩ : ∃ j, j < n ∧ x = nI j := by
        obtain ⟨j, h3, rfl⟩ := nI_of h1
        exact ⟨j, Nat.lt_of_not_le fun q => h2 (nI_le q h3), rfl⟩
      exact absurd e (h j hj)
theorem fqat_lt {n j : Nat} {x : Int32} (h : fqat n x = some j) : j < n ∧ x = nI j := by
  unfold fqat at h
  by_cases h1 : x < 0
  · rw [if_pos h1] at h; cases h
  · rw [if_neg h1] at h
    by_cases h2 : nI n ≤ x
    · rw [if_pos h2] at h; cases h
    · rw [if_neg h2] at h
      cases h
      obtain ⟨j, h3, rfl⟩ := nI_of h1
      rw [fqn_nI h3]
      exact ⟨Nat.lt_of_not_le fun q => h2 (nI_le q h3), rfl⟩
theorem fqleave_form (fl pr pg ky : Int32) (K B M : Nat → Int32) (j : Nat) : ∃ B1 M1, fqleave (fl, pr, pg, ky, K, B, M) j = (fl, pr, pg, ky, K, B1, M1) := by
  simp only [fqleave]
  split
  · exact ⟨_, _, rfl⟩
  · exact ⟨_, _, rfl⟩
theorem fqput_form (fl pr pg ky : Int32) (K B M : Nat → Int32) (j : Nat) : ∃ pg1 B1 M1, fqput (fl, pr, pg, ky, K, B, M) j = (fl, pr, pg1, ky, K, B1, M1) := by
  obtain ⟨B1, M1, e⟩ := fqleave_form fl pr pg ky K B M j
  unfold fqput
  rw [e]
  exact ⟨_, _, _, rfl⟩
theorem fqtake_form (fl pr pg ky : Int32) (K B M : Nat → Int32) (j : Nat) : ∃ pr1 B1 M1, fqtake (fl, pr, pg, ky, K, B, M) j = (fl, pr1, pg, ky, K, B1, M1) := by
  obtain ⟨B1, M1, e⟩ := fqleave_form fl pr pg ky K B M j
  unfold fqtake
  rw [e]
  exact ⟨_, _, _, rfl⟩
/-- the buckets behind a leave, a put -/
theorem fqleave_B (q : fqQ) (j i : Nat) : (fqleave q j).2.2.2.2.2.1 i = if i = j then -1 else q.2.2.2.2.2.1 i := by
  obtain ⟨fl, pr, pg, ky, K, B, M⟩ := q
  simp only [fqleave]
  split
  · rename_i h
    by_cases e : i = j
    · subst e; rw [if_pos rfl]; exact h
    · rw [if_neg e]
  · rfl
theorem fqleave_K (q : fqQ) (j : Nat) : (fqleave q j).2.2.2.2.1 = q.2.2.2.2.1 ∧ (fqleave q j).1 = q.1 := by
  obtain ⟨fl, pr, pg, ky, K, B, M⟩ := q
  simp only [fqleave]
  split <;> exact ⟨rfl, rfl⟩
theorem fqput_B (q : fqQ) (j i : Nat) : (fqput q j).2.2.2.2.2.1 i = if i = j then nI (fqk (q.2.2.2.2.1 j) q.1) else q.2.2.2.2.2.1 i := by
  have h1 := fqleave_B q j i
  have h2 := fqleave_K q j
  unfold fqput
  generalize fqleave q j = u at h1 h2
  obtain ⟨fl, pr, pg, ky, K, B, M⟩ := u
  obtain ⟨h2, h3⟩ := h2
  dsimp only at h1 h2 h3 ⊢
  unfold upd
  by_cases e : i = j
  · rw [if_pos e, if_pos e, h2, h3]
  · rw [if_neg e, if_neg e, h1, if_neg e]
theorem fqput_K (q : fqQ) (j : Nat) : (fqput q j).2.2.2.2.1 = q.2.2.2.2.1 ∧ (fqput q j).1 = q.1 := by
  have h2 := fqleave_K q j
  unfold fqput
  generalize fqleave q j = u at h2
  obtain ⟨fl, pr, pg, ky, K, B, M⟩ := u
  exact h2
theorem fqtake_B (q : fqQ) (j i : Nat) : (fqtake q j).2.2.2.2.2.1 i = if i = j then -1 else q.2.2.2.2.2.1 i := by
  have h1 := fqleave_B q j i
  unfold fqtake
  generalize fqleave q j = u at h1
  obtain ⟨fl, pr, pg, ky, K, B, M⟩ := u
  exact h1
theorem fqtake_K (q : fqQ) (j : Nat) : (fqtake q j).2.2.2.2.1 = q.2.2.2.2.1 ∧ (fqtake q j).1 = q.1 := by
  have h2 := fqleave_K q j
  unfold fqtake
  generalize fqleave q j = u at h2
  obtain ⟨fl, pr, pg, ky, K, B, M⟩ := u
  exact h2
theorem fqput_S {n : Nat} {q : fqQ} {j : Nat} (h : fqS n q) (hk : ¬ q.2.2.2.2.1 j < 0) : fqS n (fqput q j) := by
  refine ⟨by rw [(fqput_K q j).2]; exact h.1, fun i hi => ?_⟩
  have h1 := h.2 i hi
  unfold fqB1 at h1 ⊢
  rw [fqput_B, (fqput_K q j).1]
  by_cases e : i = j
  · subst e
    rw [if_pos rfl]
    exact ⟨Or.inr ⟨_, fqk_lt _ _, rfl⟩, fun _ => hk⟩
  · rw [if_neg e]
    exact h1
theorem fqtake_S {n : Nat} {q : fqQ} {j : Nat} (h : fqS n q) : fqS n (fqtake q j) := by
  refine ⟨by rw [(fqtake_K q j).2]; exact h.1, fun i hi => ?_⟩
  have h1 := h.2 i hi
  unfold fqB1 at h1 ⊢
  rw [fqtake_B, (fqtake_K q j).1]
  by_cases e : i = j
  · rw [if_pos e]
    exact ⟨Or.inl rfl, fun h9 => absurd rfl h9⟩
  · rw [if_neg e]
    exact h1
theorem fqspread_S {n : Nat} {b : Int32} (hb : b ≠ -1) : ∀ (d i : Nat) (q : fqQ), d + i ≤ n → fqS n q → fqS n (fqspread b d i q) ∧ (fqspread b d i q).1 = q.1 ∧ (fqspread b d i q).2.2.2.2.1 = q.2.2.2.2.1 := by
  intro d
  induction d with
  | zero => exact fun i q _ h => ⟨h, rfl, rfl⟩
  | succ d ih =>
    intro i q hi h
    unfold fqspread
    by_cases e : q.2.2.2.2.2.1 i = b
    · rw [if_pos e]
      have h1 := fqput_S (j := i) h ((h.2 i (by omega)).2 (by rw [e]; exact hb))
      obtain ⟨a1, a2, a3⟩ := ih (i + 1) _ (by omega) h1
      exact ⟨a1, a2.trans (fqput_K q i).2, a3.trans (fqput_K q i).1⟩
    · rw [if_neg e]
      exact ih (i + 1) q (by omega) h
theorem fqbest_in {K B : Nat → Int32} {b : Int32} : ∀ (d i : Nat) (a : Option Nat) (j : Nat), fqbest K B b d i a = some j → a = some j ∨ (i ≤ j ∧ j < i + d ∧ B j ≠ -1 ∧ B j = b) := by
  intro d
  induction d with
  | zero => exact fun i a j h => Or.inl h
  | succ d ih =>
    intro i a j h
    unfold fqbest at h
    rcases ih (i + 1) _ j h with h1 | ⟨h1, h2, h3, h4⟩
    · cases a with
      | none =>
        dsimp only at h1
        split at h1
        · rename_i h5; cases h1; exact Or.inr ⟨Nat.le_refl _, by omega, h5.1, h5.2⟩
        · cases h1
      | some j' =>
        dsimp only at h1
        split at h1
        · rename_i h5; cases h1; exact Or.inr ⟨Nat.le_refl _, by omega, h5.1, h5.2.1⟩
        · exact Or.inl h1
    · exact Or.inr ⟨by omega, by omega, h3, h4⟩
theorem fqbest_none {K B : Nat → Int32} {b : Int32} (d i : Nat) : fqbest K B b (d + 1) i none = fqbest K B b d (i + 1) (if B i ≠ -1 ∧ B i = b then some i else none) := rfl
theorem fqbest_some {K B : Nat → Int32} {b : Int32} (d i j : Nat) : fqbest K B b (d + 1) i (some j) = fqbest K B b d (i + 1) (if B i ≠ -1 ∧ B i = b ∧ K i < K j then some i else some j) := rfl
theorem fqspread_s (b : Int32) (d i : Nat) (q : fqQ) : fqspread b (d + 1) i q = fqspread b d (i + 1) (if q.2.2.2.2.2.1 i = b then fqput q i else q) := rfl
theorem fqspread_form (b fl pr ky : Int32) (K : Nat → Int32) : ∀ (d i : Nat) (pg : Int32) (B M : Nat → Int32), ∃ pg1 B1 M1, fqspread b d i (fl, pr, pg, ky, K, B, M) = (fl, pr, pg1, ky, K, B1, M1) := by
  intro d
  induction d with
  | zero => exact fun i pg B M => ⟨_, _, _, rfl⟩
  | succ d ih =>
    intro i pg B M
    rw [fqspread_s]
    split
    · obtain ⟨pg1, B1, M1, e⟩ := fqput_form fl pr pg ky K B M i
      rw [e]
      exact ih (i + 1) pg1 B1 M1
    · exact ih (i + 1) pg B M
theorem fq_le0 {a b : Int32} (h : ¬ a < b) (hb : ¬ b < 0) : ¬ a < 0 := fun h1 => h (Int32.lt_of_lt_of_le h1 (Int32.not_lt.mp hb))
theorem fqlower_bad {n : Nat} {q : fqQ} {x key : Int32} (h : ∀ j, j < n → x = nI j → q.2.2.2.2.2.1 j = -1) : fqlower n q x key = (-1, q) := by
  unfold fqlower
  cases e : fqat n x with
  | none => rfl
  | some j =>
    dsimp only
    rw [if_pos (h j (fqat_lt e).1 (fqat_lt e).2)]
def fqempty (n : Nat) (q : fqQ) : fqQ := (0, 0, q.2.2.1, q.2.2.2.1, q.2.2.2.2.1, fqfill n (-1) q.2.2.2.2.2.1, fqfill 32 0 q.2.2.2.2.2.2)
/-- the answer of key, bucket, distance, before: a number of a row, at an item -/
def fqget (n : Nat) (f : Nat → Int32) (p : Nat → Bool) (x : Int32) : Int32 := match fqat n x with
  | none => -1
  | some j => if p j = true then f j else -1
def fqokB (fl : Int32) (K B : Nat → Int32) (j : Nat) : Bool := decide (B j ≠ -1 → (fl ≤ K j ∧ B j = nI (fqk (K j) fl)))
def fqall (p : Nat → Bool) : Nat → Nat → Bool
  | 0, _ => true
  | d + 1, i => p i && fqall p d (i + 1)
def fqsound (n : Nat) (q : fqQ) : Bool := fqall (fqokB q.1 q.2.2.2.2.1 q.2.2.2.2.2.1) n 0 && decide (q.2.2.1.toInt64 ≤ 32 * q.2.2.2.1.toInt64)
def fqcount (n : Nat) (ac ky x : Int32) : Int32 := if x = 0 then nI n else if x = 1 then ac else if x = 2 then ky else -1
def fqmany (M : Nat → Int32) (x : Int32) : Int32 := match fqat 32 x with
  | none => -1
  | some b => M b
theorem fqall_s (p : Nat → Bool) (d i : Nat) : fqall p (d + 1) i = (p i && fqall p d (i + 1)) := rfl
theorem fqall_iff (p : Nat → Bool) : ∀ d i, fqall p d i = true ↔ ∀ j, i ≤ j → j < d + i → p j = true := by
  intro d
  induction d with
  | zero => intro i; simp only [fqall, true_iff]; intro j h1 h2; omega
  | succ d ih =>
    intro i
    rw [fqall_s, Bool.and_eq_true, ih]
    constructor
    · rintro ⟨h1, h2⟩ j h3 h4
      rcases Nat.eq_or_lt_of_le h3 with e | e
      · subst e; exact h1
      · exact h2 j e (by omega)
    · intro h
      exact ⟨h i (Nat.le_refl _) (by omega), fun j h1 h2 => h j (by omega) (by omega)⟩
/-- the net: the arcs of an item, the latest first, as the cells in 'rest' hold them -/
def fqch (rest : va_W) : Option Nat → List (Int32 × Int32) → Prop
  | r, [] => r = none
  | r, (e, w) :: t => ∃ a nx, r = some a ∧ (∃ k : Nat, rest[k]? = some (a, .inr (1, [.int e, .int w, va_rf nx]))) ∧ fqch rest nx t
theorem fqch_app {rest : va_W} {x : va_W} : ∀ (t : List (Int32 × Int32)) (r : Option Nat), fqch rest r t → fqch (rest ++ x) r t := by
  intro t
  induction t with
  | nil => exact fun r h => h
  | cons y t ih =>
    obtain ⟨e, w⟩ := y
    rintro r ⟨a, nx, h1, ⟨k, h2⟩, h3⟩
    exact ⟨a, nx, h1, ⟨k, by rw [List.getElem?_append_left (List.getElem?_eq_some_iff.mp h2).1]; exact h2⟩, ih nx h3⟩
/-- the net's part: queue, distances, befores -/
abbrev fqR : Type := fqQ × (Nat → Int32) × (Nat → Int32)
def fqends (n : Nat) (t : List (Int32 × Int32)) : Prop := ∀ a ∈ t, ∃ e, e < n ∧ a.1 = nI e
def fqtry (n : Nat) (s : fqR) (t : Nat) (e w : Int32) : fqR :=
  if s.2.1 (fqn e) = -1 then
    (if 2147483647 < (s.2.1 t).toInt64 + w.toInt64 then s
     else if s.1.2.2.2.2.2.1 (fqn e) = -1 then ((fqpush n s.1 e ((s.2.1 t).toInt64 + w.toInt64).toInt32).2, s.2.1, upd s.2.2 (fqn e) (nI t))
     else if (s.2.1 t).toInt64 + w.toInt64 < (s.1.2.2.2.2.1 (fqn e)).toInt64 then ((fqlower n s.1 e ((s.2.1 t).toInt64 + w.toInt64).toInt32).2, s.2.1, upd s.2.2 (fqn e) (nI t))
     else s)
  else s
def fqtries (n : Nat) (t : Nat) : List (Int32 × Int32) → fqR → fqR
  | [], s => s
  | a :: r, s => fqtries n t r (fqtry n s t a.1 a.2)
def fqnext (n : Nat) (as : Nat → List (Int32 × Int32)) (s : fqR) : fqR := match fqat n (fqpop n s.1).1 with
  | none => ((fqpop n s.1).2, s.2)
  | some j => fqtries n j (as j) ((fqpop n s.1).2, upd s.2.1 j (fqpop n s.1).2.1, s.2.2)
def fqrounds (n : Nat) (as : Nat → List (Int32 × Int32)) : Nat → fqR → fqR
  | 0, s => s
  | d + 1, s => if 0 < s.1.2.1 then fqrounds n as d (fqnext n as s) else s
def fqtoo1 (Ds : Nat → Int32) (t : List (Int32 × Int32)) : Bool := t.any fun a => decide (Ds (fqn a.1) = -1)
def fqtoo (n : Nat) (as : Nat → List (Int32 × Int32)) (Ds : Nat → Int32) : Bool := fqall (fun i => decide (Ds i = -1) || !(fqtoo1 Ds (as i))) n 0
def fqrun (n : Nat) (as : Nat → List (Int32 × Int32)) (s : fqR) (x : Int32) : Int32 × fqR := match fqat n x with
  | none => (-1, s)
  | some j => (fun r : fqR => if fqtoo n as r.2.1 = true then (0, r) else (-2, (r.1, fqfill n (-1) r.2.1, fqfill n (-1) r.2.2))) (fqrounds n as n ((fqpush n (fqempty n s.1) (nI j) 0).2, fqfill n (-1) s.2.1, fqfill n (-1) s.2.2))
/-- the calls keep what the walks need -/
theorem fqpush_S {n : Nat} {q : fqQ} {x key : Int32} (h : fqS n q) : fqS n (fqpush n q x key).2 := by
  unfold fqpush
  cases e : fqat n x with
  | none => exact h
  | some j =>
    dsimp only
    split
    · split
      · exact h
      · rename_i h1 h2
        apply fqput_S
        · refine ⟨h.1, fun i hi => ?_⟩
          obtain ⟨a1, a2⟩ := h.2 i hi
          refine ⟨a1, fun h3 => ?_⟩
          show ¬ upd q.2.2.2.2.1 j key i < 0
          unfold upd
          split
          · exact fq_le0 h2 h.1
          · exact a2 h3
        · show ¬ upd q.2.2.2.2.1 j key j < 0
          rw [pk_us]
          exact fq_le0 h2 h.1
    · exact h
theorem fqlower_S {n : Nat} {q : fqQ} {x key : Int32} (h : fqS n q) : fqS n (fqlower n q x key).2 := by
  unfold fqlower
  cases e : fqat n x with
  | none => exact h
  | some j =>
    dsimp only
    split
    · exact h
    · split
      · exact h
      · rename_i h1 h2
        split
        · split
          · exact h
          · have h3 : fqS n (q.1, q.2.1, q.2.2.1, q.2.2.2.1 + 1, upd q.2.2.2.2.1 j key, q.2.2.2.2.2.1, q.2.2.2.2.2.2) := by
              refine ⟨h.1, fun i hi => ?_⟩
              obtain ⟨a1, a2⟩ := h.2 i hi
              refine ⟨a1, fun h3 => ?_⟩
              show ¬ upd q.2.2.2.2.1 j key i < 0
              unfold upd
              split
              · exact fq_le0 h2 h.1
              · exact a2 h3
            show fqS n (fqlow1 q j key)
            unfold fqlow1
            split
            · exact h3
            · apply fqput_S h3
              show ¬ upd q.2.2.2.2.1 j key j < 0
              rw [pk_us]
              exact fq_le0 h2 h.1
        · exact h
theorem fqpop_S {n : Nat} {q : fqQ} (h : fqS n q) : fqS n (fqpop n q).2 := by
  unfold fqpop
  cases e : fqbest q.2.2.2.2.1 q.2.2.2.2.2.1 (fqopt (fqlow q.2.2.2.2.2.2 32 0)) n 0 none with
  | none => exact h
  | some j =>
    dsimp only
    obtain ⟨-, h1, h2, -⟩ := (fqbest_in n 0 none j e).resolve_left (fun h => by cases h)
    have h3 : fqS n (q.2.2.2.2.1 j, q.2) := ⟨(h.2 j (by omega)).2 h2, h.2⟩
    apply fqtake_S
    split
    · exact h3
    · rename_i h4
      exact (fqspread_S (fun h5 => h4 (by rw [h5]; decide)) n 0 _ (Nat.le_refl _) h3).1
theorem fqempty_S {n : Nat} (q : fqQ) : fqS n (fqempty n q) := ⟨(by decide : ¬ (0 : Int32) < 0), fun j hj => by
  have e : (fqempty n q).2.2.2.2.2.1 j = -1 := if_pos hj
  exact ⟨Or.inl e, fun h => absurd e h⟩⟩
theorem fqtry_S {n : Nat} {s : fqR} {t : Nat} {e w : Int32} (h : fqS n s.1) : fqS n (fqtry n s t e w).1 := by
  unfold fqtry
  split
  · split
    · exact h
    · split
      · exact fqpush_S h
      · split
        · exact fqlower_S h
        · exact h
  · exact h
theorem fqtries_S {n : Nat} {t : Nat} : ∀ (r : List (Int32 × Int32)) (s : fqR), fqS n s.1 → fqS n (fqtries n t r s).1 := by
  intro r
  induction r with
  | nil => exact fun s h => h
  | cons a r ih => exact fun s h => ih _ (fqtry_S h)
theorem fqnext_S {n : Nat} {as : Nat → List (Int32 × Int32)} {s : fqR} (h : fqS n s.1) : fqS n (fqnext n as s).1 := by
  unfold fqnext
  cases fqat n (fqpop n s.1).1 with
  | none => exact fqpop_S h
  | some j => exact fqtries_S _ _ (fqpop_S h)
theorem fqrounds_S {n : Nat} {as : Nat → List (Int32 × Int32)} : ∀ (d : Nat) (s : fqR), fqS n s.1 → fqS n (fqrounds n as d s).1 := by
  intro d
  induction d with
  | zero => exact fun s h => h
  | succ d ih =>
    intro s h
    unfold fqrounds
    split
    · exact ih _ (fqnext_S h)
    · exact h
theorem fqrun_S {n : Nat} {as : Nat → List (Int32 × Int32)} {s : fqR} {x : Int32} (h : fqS n s.1) : fqS n (fqrun n as s x).2.1 := by
  unfold fqrun
  cases fqat n x with
  | none => exact h
  | some j =>
    dsimp only
    have h1 := fqrounds_S (as := as) n ((fqpush n (fqempty n s.1) (nI j) 0).2, fqfill n (-1) s.2.1, fqfill n (-1) s.2.2) (fqpush_S (fqempty_S s.1))
    split
    · exact h1
    · exact h1
/-- arc's answer -/
def fqarcR (n : Nat) (ar gl ac u v w : Int32) : Int32 := match fqat n u, fqat n v with
  | some _, some _ => if w < 0 then -2 else if w ≤ gl then (if ac < ar then 0 else -3) else -2
  | _, _ => -1
theorem fqtries_c (n t : Nat) (e w : Int32) (r : List (Int32 × Int32)) (s : fqR) : fqtries n t ((e, w) :: r) s = fqtries n t r (fqtry n s t e w) := rfl
theorem fqrounds_s (n : Nat) (as : Nat → List (Int32 × Int32)) (d : Nat) (s : fqR) : fqrounds n as (d + 1) s = if 0 < s.1.2.1 then fqrounds n as d (fqnext n as s) else s := rfl
theorem fq_last {α : Type} (l : List α) (x : α) : (l ++ [x])[l.length]? = some x := by rw [List.getElem?_append_right (Nat.le_refl _), Nat.sub_self]; rfl
theorem fq_lastset {α : Type} (l : List α) (x y : α) : (l ++ [x]).set l.length y = l ++ [y] := by
  induction l with
  | nil => rfl
  | cons a l ih => exact congrArg (List.cons a) ih
/-- a number brought within 1 .. hi -/
def fqlim (x : Int32) (hi : Nat) : Nat := if x < 1 then 1 else if nI hi < x then hi else fqn x
def fqpos (x : Int32) : Int32 := if 0 < x then x else 0
theorem fqlim_eq (x : Int32) {hi : Nat} (h1 : 1 ≤ hi) (h2 : hi < 2 ^ 31) : (if 1 < (if nI hi < x then nI hi else x) then (if nI hi < x then nI hi else x) else 1) = nI (fqlim x hi) := by
  unfold fqlim
  by_cases h : x < 1
  · rw [if_pos h]
    have h3 : ¬ nI hi < x := fun q => by
      have h4 := Int32.lt_trans q h
      exact absurd h4 (Int32.not_lt.mpr (nI_le h1 h2))
    rw [if_neg h3, if_neg (fun q => Int32.lt_irrefl (Int32.lt_trans q h))]
    rfl
  · rw [if_neg h]
    by_cases h3 : nI hi < x
    · rw [if_pos h3, if_pos h3]
      by_cases h4 : 1 < nI hi
      · rw [if_pos h4]
      · rw [if_neg h4]
        have h5 : hi = 1 := by
          rcases Nat.eq_or_lt_of_le h1 with e | e
          · exact e.symm
          · exact absurd (show nI 1 < nI hi from nI_lt e h2) h4
        rw [h5]
        rfl
    · rw [if_neg h3, if_neg h3]
      have h0 : ¬ x < 0 := fun q => h (Int32.lt_trans q (by decide))
      by_cases h4 : 1 < x
      · rw [if_pos h4, nI_fqn h0]
      · rw [if_neg h4, nI_fqn h0]
        exact Int32.le_antisymm (Int32.not_lt.mp h) (Int32.not_lt.mp h4)
theorem fqlim_le (x : Int32) {hi : Nat} (h1 : 1 ≤ hi) (h2 : hi < 2 ^ 31) : 1 ≤ fqlim x hi ∧ fqlim x hi ≤ hi := by
  unfold fqlim
  by_cases h : x < 1
  · rw [if_pos h]; omega
  · rw [if_neg h]
    by_cases h3 : nI hi < x
    · rw [if_pos h3]; omega
    · rw [if_neg h3]
      have h0 : ¬ x < 0 := fun q => h (Int32.lt_trans q (by decide))
      obtain ⟨j, h4, rfl⟩ := nI_of h0
      rw [fqn_nI h4]
      constructor
      · rcases Nat.eq_zero_or_pos j with q | q
        · subst q; exact absurd (by decide) h
        · exact q
      · exact Nat.le_of_not_lt fun q => h3 (nI_lt q h4)
/-! THE REFERENCE AS PURE FUNCTIONS: (lowest, placings, calls, keys) -/
abbrev mqQ : Type := Int32 × Int32 × Int32 × (Nat → Int32)
theorem mq_sl : ∀ n, n < 32 → ((nI n &&& 31).toBitVec.smod 32).toNat = n := by decide +kernel
theorem mq_m1 (x : Int32) : x + Int32.ofInt (-1) = x - 1 := by rw [Int32.sub_eq_add_neg]; rfl
theorem mq_bit (z k : Nat) : fqbl (z % 2 ^ (k + 1)) = if z / 2 ^ k % 2 = 1 then k + 1 else fqbl (z % 2 ^ k) := by
  have e : z % 2 ^ (k + 1) = z % 2 ^ k + 2 ^ k * (z / 2 ^ k % 2) := by rw [Nat.pow_succ, Nat.mod_mul]
  have hlt : z % 2 ^ k < 2 ^ k := Nat.mod_lt _ (Nat.two_pow_pos k)
  by_cases h : z / 2 ^ k % 2 = 1
  · rw [if_pos h, e, h, Nat.mul_one]
    have h1 : fqbl (z % 2 ^ k + 2 ^ k) ≤ k + 1 := (fqbl_le _ _).mpr (by rw [Nat.pow_succ]; omega)
    have h2 : ¬ fqbl (z % 2 ^ k + 2 ^ k) ≤ k := fun q => by
      have := (fqbl_le _ _).mp q
      omega
    omega
  · rw [if_neg h, e, show z / 2 ^ k % 2 = 0 by omega, Nat.mul_zero, Nat.add_zero]
theorem mq_xbit (x y k : Nat) : (x ^^^ y) / 2 ^ k % 2 = 1 ↔ x / 2 ^ k % 2 ≠ y / 2 ^ k % 2 := by
  rw [Nat.xor_div_two_pow, Nat.xor_mod_two_eq_one]
  have h1 := Nat.mod_lt (x / 2 ^ k) (by decide : 2 > 0)
  have h2 := Nat.mod_lt (y / 2 ^ k) (by decide : 2 > 0)
  omega
theorem mq_and1 {k : Nat} (h : k < 2 ^ 31) : nI k &&& 1 = nI (k % 2) := pk_andN (by omega) (m := 1) 1 (by decide)
def mqcnt (p : Nat → Bool) : Nat → Nat → Int32 → Int32
  | 0, _, c => c
  | d + 1, i, c => mqcnt p d (i + 1) (c + if p i = true then 1 else 0)
theorem mqcnt_s (p : Nat → Bool) (d i : Nat) (c : Int32) : mqcnt p (d + 1) i c = mqcnt p d (i + 1) (c + if p i = true then 1 else 0) := rfl
def mqat (K : Nat → Int32) (lo b : Int32) (i : Nat) : Bool := decide (K i ≠ -1 ∧ nI (fqk (K i) lo) = b)
def mqhas (K : Nat → Int32) (i : Nat) : Bool := decide (K i ≠ -1)
def mqpush (n : Nat) (q : mqQ) (x key : Int32) : Int32 × mqQ := match fqat n x with
  | none => (-1, q)
  | some j => if q.2.2.2 j = -1 then (if key < q.1 then (-2, q) else (0, (q.1, q.2.1 + 1, q.2.2.1 + 1, upd q.2.2.2 j key))) else (-1, q)
def mqlower (n : Nat) (q : mqQ) (x key : Int32) : Int32 × mqQ := match fqat n x with
  | none => (-1, q)
  | some j => if q.2.2.2 j = -1 then (-1, q) else if key < q.1 then (-2, q) else if key ≤ q.2.2.2 j then (0, (q.1, q.2.1 + (if nI (fqk key q.1) = nI (fqk (q.2.2.2 j) q.1) then 0 else 1), q.2.2.1 + 1, upd q.2.2.2 j key)) else (-2, q)
def mqbest (K : Nat → Int32) : Nat → Option Nat → Option Nat
  | 0, a => a
  | d + 1, a => mqbest K d (match a with | none => (if K d ≠ -1 then some d else none) | some j => (if K d ≠ -1 ∧ K d ≤ K j then some d else some j))
theorem mqbest_none {K : Nat → Int32} (d : Nat) : mqbest K (d + 1) none = mqbest K d (if K d ≠ -1 then some d else none) := rfl
theorem mqbest_some {K : Nat → Int32} (d j : Nat) : mqbest K (d + 1) (some j) = mqbest K d (if K d ≠ -1 ∧ K d ≤ K j then some d else some j) := rfl
theorem mqbest_in {K : Nat → Int32} : ∀ (d : Nat) (a : Option Nat) (j : Nat), mqbest K d a = some j → a = some j ∨ (j < d ∧ K j ≠ -1) := by
  intro d
  induction d with
  | zero => exact fun a j h => Or.inl h
  | succ d ih =>
    intro a j h
    cases a with
    | none =>
      rw [mqbest_none] at h
      rcases ih _ j h with h1 | ⟨h1, h2⟩
      · split at h1
        · rename_i h3; cases h1; exact Or.inr ⟨by omega, h3⟩
        · cases h1
      · exact Or.inr ⟨by omega, h2⟩
    | some j' =>
      rw [mqbest_some] at h
      rcases ih _ j h with h1 | ⟨h1, h2⟩
      · split at h1
        · rename_i h3; cases h1; exact Or.inr ⟨by omega, h3.1⟩
        · exact Or.inl h1
      · exact Or.inr ⟨by omega, h2⟩
def mqpop (n : Nat) (q : mqQ) : Int32 × mqQ := match mqbest q.2.2.2 n none with
  | none => (-1, q)
  | some j => (nI j, if nI (fqk (q.2.2.2 j) q.1) ≤ 0 then (q.1, q.2.1, q.2.2.1, upd q.2.2.2 j (-1)) else (q.2.2.2 j, mqcnt (mqat q.2.2.2 q.1 (nI (fqk (q.2.2.2 j) q.1))) n 0 q.2.1, q.2.2.1, upd q.2.2.2 j (-1)))
def mqmany (n : Nat) (q : mqQ) (x : Int32) : Int32 := if x < 0 then -1 else if x ≤ 31 then mqcnt (mqat q.2.2.2 q.1 x) n 0 0 else -1
/-- what the walks need -/
def mqS (n : Nat) (q : mqQ) : Prop := ¬ q.1 < 0 ∧ ∀ j, j < n → q.2.2.2 j ≠ -1 → ¬ q.2.2.2 j < 0
/-- the net: lengths .. as rows of 300; ac of them; the ends are items -/
def mqnet (n ac : Nat) (F T : Nat → Int32) : Prop := ∀ k, k < ac → (∃ u, u < n ∧ F k = nI u) ∧ ∃ v, v < n ∧ T k = nI v
/-- queue, ways, formers, taken -/
abbrev mqR : Type := mqQ × (Nat → Int32) × (Nat → Int32) × (Nat → Int32)
def mqreach (n : Nat) (s : mqR) (u v : Nat) (w : Int32) : mqR :=
  if s.2.2.2 v = 0 then
    (if 2147483647 < (s.2.1 u).toInt64 + w.toInt64 then s
     else if s.1.2.2.2 v = -1 then ((mqpush n s.1 (nI v) ((s.2.1 u).toInt64 + w.toInt64).toInt32).2, s.2.1, upd s.2.2.1 v (nI u), s.2.2.2)
     else if (s.2.1 u).toInt64 + w.toInt64 < (s.1.2.2.2 v).toInt64 then ((mqlower n s.1 (nI v) ((s.2.1 u).toInt64 + w.toInt64).toInt32).2, s.2.1, upd s.2.2.1 v (nI u), s.2.2.2)
     else s)
  else s
def mqsweep (n : Nat) (F T Ln : Nat → Int32) (u : Nat) : Nat → mqR → mqR
  | 0, s => s
  | d + 1, s => mqsweep n F T Ln u d (if F d = nI u then mqreach n s u (fqn (T d)) (Ln d) else s)
theorem mqsweep_s (n : Nat) (F T Ln : Nat → Int32) (u d : Nat) (s : mqR) : mqsweep n F T Ln u (d + 1) s = mqsweep n F T Ln u d (if F d = nI u then mqreach n s u (fqn (T d)) (Ln d) else s) := rfl
def mqleast (K : Nat → Int32) : Nat → Nat → Int32 → Int32
  | 0, _, a => a
  | d + 1, i, a => mqleast K d (i + 1) (if K i ≠ -1 ∧ K i < a then K i else a)
theorem mqleast_s (K : Nat → Int32) (d i : Nat) (a : Int32) : mqleast K (d + 1) i a = mqleast K d (i + 1) (if K i ≠ -1 ∧ K i < a then K i else a) := rfl
def mqnext (n : Nat) (F T Ln : Nat → Int32) (ac : Nat) (s : mqR) : mqR := mqsweep n F T Ln (fqn (mqpop n s.1).1) ac ((mqpop n s.1).2, upd s.2.1 (fqn (mqpop n s.1).1) (mqleast s.1.2.2.2 n 0 2147483647), s.2.2.1, upd s.2.2.2 (fqn (mqpop n s.1).1) 1)
def mqloop (n : Nat) (F T Ln : Nat → Int32) (ac : Nat) : Nat → mqR → mqR
  | 0, s => s
  | d + 1, s => if 0 < mqcnt (mqhas s.1.2.2.2) n 0 0 then mqloop n F T Ln ac d (mqnext n F T Ln ac s) else s
theorem mqloop_s (n : Nat) (F T Ln : Nat → Int32) (ac d : Nat) (s : mqR) : mqloop n F T Ln ac (d + 1) s = if 0 < mqcnt (mqhas s.1.2.2.2) n 0 0 then mqloop n F T Ln ac d (mqnext n F T Ln ac s) else s := rfl
def mqnear1 (F T : Nat → Int32) : Nat → Nat → (Nat → Int32) → Nat → Int32
  | 0, _, N => N
  | d + 1, i, N => mqnear1 F T d (i + 1) (upd N (fqn (T i)) (if N (fqn (T i)) = 0 ∧ N (fqn (F i)) = 0 then 0 else 1))
theorem mqnear1_s (F T : Nat → Int32) (d i : Nat) (N : Nat → Int32) : mqnear1 F T (d + 1) i N = mqnear1 F T d (i + 1) (upd N (fqn (T i)) (if N (fqn (T i)) = 0 ∧ N (fqn (F i)) = 0 then 0 else 1)) := rfl
def mqnear (F T : Nat → Int32) (ac : Nat) : Nat → (Nat → Int32) → Nat → Int32
  | 0, N => N
  | d + 1, N => mqnear F T ac d (mqnear1 F T ac 0 N)
theorem mqnear_s (F T : Nat → Int32) (ac d : Nat) (N : Nat → Int32) : mqnear F T ac (d + 1) N = mqnear F T ac d (mqnear1 F T ac 0 N) := rfl
def mqstart (j : Nat) (N : Nat → Int32) : Nat → Int32 := fun k => if k < 40 then (if k = j then 1 else 0) else N k
def mqspread (n : Nat) (F T : Nat → Int32) (ac j : Nat) (N : Nat → Int32) : Nat → Int32 := mqnear F T ac n (mqstart j N)
def mqok (Tk N : Nat → Int32) : Nat → Nat → Int32 → Int32
  | 0, _, h => h
  | d + 1, i, h => mqok Tk N d (i + 1) (if h = 0 then 0 else if Tk i = 0 then (if N i = 0 then 1 else 0) else 1)
theorem mqok_s (Tk N : Nat → Int32) (d i : Nat) (h : Int32) : mqok Tk N (d + 1) i h = mqok Tk N d (i + 1) (if h = 0 then 0 else if Tk i = 0 then (if N i = 0 then 1 else 0) else 1) := rfl
def mqclear (q : mqQ) : mqQ := (0, q.2.1, q.2.2.1, fqfill 40 (-1) q.2.2.2)
/-- the whole: the net's part, near, hasWays -/
abbrev mqX : Type := mqR × (Nat → Int32) × Int32
def mqfin (n : Nat) (F T : Nat → Int32) (ac j : Nat) (r : mqR) (N : Nat → Int32) : Int32 × mqX := (if mqok r.2.2.2 (mqspread n F T ac j N) n 0 1 = 0 then -2 else 0, (r, mqspread n F T ac j N, mqok r.2.2.2 (mqspread n F T ac j N) n 0 1))
def mqrun (n : Nat) (F T Ln : Nat → Int32) (ac : Nat) (s : mqX) (x : Int32) : Int32 × mqX := match fqat n x with
  | none => (-1, s)
  | some j => mqfin n F T ac j (mqloop n F T Ln ac (n + 1) ((mqpush n (mqclear s.1.1) (nI j) 0).2, s.1.2.1, fqfill 40 (-1) s.1.2.2.1, fqfill 40 0 s.1.2.2.2)) s.2.1
def mqdist (n : Nat) (hw : Int32) (Tk W : Nat → Int32) (x : Int32) : Int32 := if hw = 0 then -1 else match fqat n x with
  | none => -1
  | some j => if Tk j = 0 then -1 else W j
theorem fq_fills {i : Nat} {v : Int32} {f : Nat → Int32} : upd (fun j => if j < i then v else f j) i v = (fun j => if j < i + 1 then v else f j) := by
  funext j
  show (if j = i then v else if j < i then v else f j) = if j < i + 1 then v else f j
  by_cases h2 : j = i
  · subst h2; simp
  · by_cases h3 : j < i
    · rw [if_neg h2, if_pos h3, if_pos (by omega)]
    · rw [if_neg h2, if_neg h3, if_neg (by omega)]
theorem fq_fill0 {v : Int32} {f : Nat → Int32} : (fun j => if j < 0 then v else f j) = f := by funext j; simp
def mqarc (n ar : Nat) (gl : Int32) (s : Nat × Int32 × (Nat → Int32) × (Nat → Int32) × (Nat → Int32)) (xu xv w : Int32) : Int32 × (Nat × Int32 × (Nat → Int32) × (Nat → Int32) × (Nat → Int32)) :=
  if fqarcR n (nI ar) gl (nI s.1) xu xv w = 0 then (0, (s.1 + 1, 0, upd s.2.2.1 s.1 xu, upd s.2.2.2.1 s.1 xv, upd s.2.2.2.2 s.1 w)) else (fqarcR n (nI ar) gl (nI s.1) xu xv w, s)
/-- counts as numbers -/
def fqfwd (p : Nat → Bool) : Nat → Nat → Nat
  | 0, _ => 0
  | d + 1, i => (if p i = true then 1 else 0) + fqfwd p d (i + 1)
theorem fqfwd_eq (p : Nat → Bool) : ∀ d i, fqcnt p (d + i) = fqcnt p i + fqfwd p d i := by
  intro d
  induction d with
  | zero => intro i; rw [Nat.zero_add]; rfl
  | succ d ih =>
    intro i
    have h := ih (i + 1)
    rw [show d + 1 + i = d + (i + 1) by omega, h]
    show fqcnt p i + (if p i = true then 1 else 0) + fqfwd p d (i + 1) = fqcnt p i + ((if p i = true then 1 else 0) + fqfwd p d (i + 1))
    omega
theorem mqcnt_eq (p : Nat → Bool) : ∀ d i (c : Int32), mqcnt p d i c = c + nI (fqfwd p d i) := by
  intro d
  induction d with
  | zero => intro i c; show c = c + nI 0; rw [nI_0, Int32.add_zero]
  | succ d ih =>
    intro i c
    rw [mqcnt_s, ih, Int32.add_assoc]
    show _ = c + nI ((if p i = true then 1 else 0) + fqfwd p d (i + 1))
    rw [← nI_add]
    congr 2
    split <;> rfl
theorem mqcnt_n (p : Nat → Bool) (n : Nat) (c : Int32) : mqcnt p n 0 c = c + nI (fqcnt p n) := by
  rw [mqcnt_eq]
  have h := fqfwd_eq p n 0
  rw [Nat.add_zero] at h
  rw [h]
  show c + nI _ = c + nI (0 + _)
  rw [Nat.zero_add]
theorem mqbest_no {K : Nat → Int32} : ∀ (d : Nat) (a : Option Nat), mqbest K d a = none → a = none ∧ ∀ j, j < d → K j = -1 := by
  intro d
  induction d with
  | zero => exact fun a h => ⟨h, fun j hj => by omega⟩
  | succ d ih =>
    intro a h
    cases a with
    | none =>
      rw [mqbest_none] at h
      obtain ⟨h1, h2⟩ := ih _ h
      split at h1
      · cases h1
      · rename_i h3
        refine ⟨rfl, fun j hj => ?_⟩
        rcases Nat.lt_or_ge j d with q | q
        · exact h2 j q
        · rw [show j = d by omega]; exact Classical.not_not.mp h3
    | some j =>
      rw [mqbest_some] at h
      have h1 := (ih _ h).1
      split at h1 <;> cases h1
theorem mqbest_yes {K : Nat → Int32} {n : Nat} (h : 0 < mqcnt (mqhas K) n 0 0) : ∃ j, mqbest K n none = some j := by
  cases e : mqbest K n none with
  | some j => exact ⟨j, rfl⟩
  | none =>
    have h1 := (mqbest_no n none e).2
    rw [mqcnt_n, fqcnt_0 (fun i hi => by simp [mqhas, h1 i hi])] at h
    exact absurd h (by decide)
theorem mqpop_some {n : Nat} {q : mqQ} (h : 0 < mqcnt (mqhas q.2.2.2) n 0 0) : ∃ j, j < n ∧ q.2.2.2 j ≠ -1 ∧ (mqpop n q).1 = nI j ∧ (mqpop n q).2.2.2.2 = upd q.2.2.2 j (-1) := by
  obtain ⟨j, e⟩ := mqbest_yes h
  obtain ⟨h1, h2⟩ := (mqbest_in n none j e).resolve_left (fun h => by cases h)
  refine ⟨j, h1, h2, ?_, ?_⟩
  · unfold mqpop; rw [e]
  · unfold mqpop; rw [e]
    dsimp only
    split <;> rfl
theorem mqpush_S {n : Nat} {q : mqQ} {x key : Int32} (h : mqS n q) : mqS n (mqpush n q x key).2 := by
  unfold mqpush
  cases fqat n x with
  | none => exact h
  | some j =>
    dsimp only
    split
    · split
      · exact h
      · rename_i h1 h2
        refine ⟨h.1, fun i hi h3 => ?_⟩
        show ¬ upd q.2.2.2 j key i < 0
        have h3 : upd q.2.2.2 j key i ≠ -1 := h3
        unfold upd at h3 ⊢
        split
        · exact fq_le0 h2 h.1
        · rename_i h4
          rw [if_neg h4] at h3
          exact h.2 i hi h3
    · exact h
theorem mqlower_S {n : Nat} {q : mqQ} {x key : Int32} (h : mqS n q) : mqS n (mqlower n q x key).2 := by
  unfold mqlower
  cases fqat n x with
  | none => exact h
  | some j =>
    dsimp only
    split
    · exact h
    · split
      · exact h
      · rename_i h1 h2
        split
        · refine ⟨h.1, fun i hi h3 => ?_⟩
          show ¬ upd q.2.2.2 j key i < 0
          have h3 : upd q.2.2.2 j key i ≠ -1 := h3
          unfold upd at h3 ⊢
          split
          · exact fq_le0 h2 h.1
          · rename_i h4
            rw [if_neg h4] at h3
            exact h.2 i hi h3
        · exact h
theorem mqpop_S {n : Nat} {q : mqQ} (h : mqS n q) : mqS n (mqpop n q).2 := by
  unfold mqpop
  cases e : mqbest q.2.2.2 n none with
  | none => exact h
  | some j =>
    obtain ⟨h1, h2⟩ := (mqbest_in n none j e).resolve_left (fun h => by cases h)
    have hk : ∀ i, i < n → upd q.2.2.2 j (-1) i ≠ -1 → ¬ upd q.2.2.2 j (-1) i < 0 := by
      intro i hi h3
      unfold upd at h3 ⊢
      split
      · rename_i h4; rw [if_pos h4] at h3; exact absurd rfl h3
      · rename_i h4; rw [if_neg h4] at h3; exact h.2 i hi h3
    dsimp only
    split
    · exact ⟨h.1, hk⟩
    · exact ⟨h.2 j h1 h2, hk⟩
theorem mqclear_S {n : Nat} (hn : n ≤ 40) (q : mqQ) : mqS n (mqclear q) := ⟨(by decide : ¬ (0 : Int32) < 0), fun j hj h => absurd (if_pos (by omega)) h⟩
/-- the net's invariant in run: there, so not taken -/
def mqT (n : Nat) (s : mqR) : Prop := mqS n s.1 ∧ ∀ i, i < n → s.1.2.2.2 i ≠ -1 → s.2.2.2 i = 0
theorem mqpush_K {n : Nat} {q : mqQ} {x key : Int32} {i : Nat} (h : (mqpush n q x key).2.2.2.2 i ≠ -1) : q.2.2.2 i ≠ -1 ∨ x = nI i := by
  unfold mqpush at h
  cases e : fqat n x with
  | none => rw [e] at h; exact Or.inl h
  | some j =>
    rw [e] at h
    dsimp only at h
    split at h
    · split at h
      · exact Or.inl h
      · by_cases e1 : i = j
        · subst e1; exact Or.inr (fqat_lt e).2
        · have h : upd q.2.2.2 j key i ≠ -1 := h
          rw [pk_un e1] at h
          exact Or.inl h
    · exact Or.inl h
theorem mqlower_K {n : Nat} {q : mqQ} {x key : Int32} {i : Nat} (h : (mqlower n q x key).2.2.2.2 i ≠ -1) : q.2.2.2 i ≠ -1 ∨ x = nI i := by
  unfold mqlower at h
  cases e : fqat n x with
  | none => rw [e] at h; exact Or.inl h
  | some j =>
    rw [e] at h
    dsimp only at h
    split at h
    · exact Or.inl h
    · split at h
      · exact Or.inl h
      · split at h
        · by_cases e1 : i = j
          · subst e1; exact Or.inr (fqat_lt e).2
          · have h : upd q.2.2.2 j key i ≠ -1 := h
            rw [pk_un e1] at h
            exact Or.inl h
        · exact Or.inl h
theorem mqreach_T {n : Nat} {s : mqR} {u v : Nat} {w : Int32} (hn : n ≤ 40) (hv : v < n) (h : mqT n s) : mqT n (mqreach n s u v w) ∧ (mqreach n s u v w).2.2.2 = s.2.2.2 := by
  unfold mqreach
  split
  · rename_i h0
    split
    · exact ⟨h, rfl⟩
    · split
      · refine ⟨⟨mqpush_S h.1, fun i hi h3 => ?_⟩, rfl⟩
        rcases mqpush_K h3 with h4 | h4
        · exact h.2 i hi h4
        · rw [← (nI_eq (by omega) (by omega)).mp h4]; exact h0
      · split
        · refine ⟨⟨mqlower_S h.1, fun i hi h3 => ?_⟩, rfl⟩
          rcases mqlower_K h3 with h4 | h4
          · exact h.2 i hi h4
          · rw [← (nI_eq (by omega) (by omega)).mp h4]; exact h0
        · exact ⟨h, rfl⟩
  · exact ⟨h, rfl⟩
theorem mqsweep_T {n : Nat} {F T Ln : Nat → Int32} {u ac : Nat} (hn : n ≤ 40) (hnet : mqnet n ac F T) : ∀ (d : Nat) (s : mqR), d ≤ ac → mqT n s → mqT n (mqsweep n F T Ln u d s) ∧ (mqsweep n F T Ln u d s).2.2.2 = s.2.2.2 := by
  intro d
  induction d with
  | zero => exact fun s _ h => ⟨h, rfl⟩
  | succ d ih =>
    intro s hd h
    rw [mqsweep_s]
    split
    · obtain ⟨v, hv, e⟩ := (hnet d (by omega)).2
      have h1 := mqreach_T (u := u) (w := Ln d) hn hv h
      rw [e, fqn_nI (by omega)]
      obtain ⟨a, b⟩ := ih _ (by omega) h1.1
      exact ⟨a, b.trans h1.2⟩
    · exact ih s (by omega) h
def mqmu (n : Nat) (s : mqR) : Nat := fqcnt (fun i => decide (s.2.2.2 i = 0)) n
theorem mqpop_T {n : Nat} {s : mqR} {j : Nat} (h : mqT n s) (hn : n ≤ 40) (hj : j < n) (hk : s.1.2.2.2 j ≠ -1) (e2 : (mqpop n s.1).2.2.2.2 = upd s.1.2.2.2 j (-1)) {W0 : Nat → Int32} : mqT n ((mqpop n s.1).2, W0, s.2.2.1, upd s.2.2.2 j 1) := by
  refine ⟨mqpop_S h.1, fun i hi h3 => ?_⟩
  have h3 : (mqpop n s.1).2.2.2.2 i ≠ -1 := h3
  rw [e2] at h3
  show upd s.2.2.2 j 1 i = 0
  by_cases e : i = j
  · subst e; rw [pk_us] at h3; exact absurd rfl h3
  · rw [pk_un e] at h3 ⊢
    exact h.2 i hi h3
theorem mqnext_T {n : Nat} {F T Ln : Nat → Int32} {ac : Nat} {s : mqR} (hn : n ≤ 40) (hnet : mqnet n ac F T) (h : mqT n s) (h0 : 0 < mqcnt (mqhas s.1.2.2.2) n 0 0) : mqT n (mqnext n F T Ln ac s) ∧ mqmu n (mqnext n F T Ln ac s) < mqmu n s := by
  obtain ⟨j, hj, hk, e1, e2⟩ := mqpop_some h0
  unfold mqnext
  rw [e1, fqn_nI (by omega)]
  have h1 := mqpop_T (W0 := upd s.2.1 j (mqleast s.1.2.2.2 n 0 2147483647)) h hn hj hk e2
  obtain ⟨a, b⟩ := mqsweep_T (Ln := Ln) (u := j) hn hnet ac _ (Nat.le_refl _) h1
  refine ⟨a, ?_⟩
  unfold mqmu
  rw [b]
  show fqcnt (fun i => decide (upd s.2.2.2 j 1 i = 0)) n < fqcnt (fun i => decide (s.2.2.2 i = 0)) n
  have h2 := h.2 j hj hk
  have h3 := fqcnt_on (p := fun i => decide (upd s.2.2.2 j 1 i = 0)) (q := fun i => decide (s.2.2.2 i = 0)) hj (by rw [pk_us]; decide) (by simp [h2]) (fun i _ hi => by rw [pk_un hi])
  omega
end
section
/-! THE WORLD: the class's object, its arrays (wX); the arcs lie in 'rest' -/
abbrev classes : List vw_C := [(RX1, TX1, 14), (RX0, TX0, 3), (RX2, TX2, 16)]
abbrev fq_ty (cI cA cZ : ClassId) : List (ClassId × FieldType) := [(cI, .int), (cA, .object RX0), (cZ, .boolean)]
abbrev wX (z : Nat → Nat) (cI cA : ClassId) (n : Nat) (ar gl fl pr pg ky ac : Int32) (K B M Ds Bf : Nat → Int32) (L : Nat → Option Nat) : va_W := [(z 0, .inr (0, [.int (nI n), .int ar, .int gl, .ref (z 1), .ref (z 2), .ref (z 3), .int fl, .int pr, .int pg, .int ky, .ref (z 4), .int ac, .ref (z 5), .ref (z 6)])), (z 1, .inl (cI, n, .inl K)), (z 2, .inl (cI, n, .inl B)), (z 3, .inl (cI, 32, .inl M)), (z 4, .inl (cA, n, .inr (.inr (.inr (.inr L))))), (z 5, .inl (cI, n, .inl Ds)), (z 6, .inl (cI, n, .inl Bf))]
theorem fq_setself {α : Type} {l : List α} {k : Nat} {x : α} (h : l[k]? = some x) : l.set k x = l := by
  apply List.ext_getElem?
  intro j
  by_cases e : j = k
  · subst e
    rw [List.getElem?_set_self (List.getElem?_eq_some_iff.mp h).1, h]
  · rw [List.getElem?_set_ne (Ne.symm e)]
theorem fq_dec {a : Nat} (c : Nat) (h : c ≤ a) {x : Int32} (e : nI c + x = 0) : nI a + x = nI (a - c) := by
  obtain ⟨b, rfl⟩ : ∃ b, a = b + c := ⟨a - c, by omega⟩
  rw [Nat.add_sub_cancel, ← nI_add, Int32.add_assoc, e, Int32.add_zero]
theorem fq_ix {x : Int32} {n : Nat} (hn : n < 2 ^ 31) (h0 : ¬ x < 0) (h : ¬ nI n ≤ x) : ∃ j, j < n ∧ x = nI j := by
  obtain ⟨j, h1, rfl⟩ := nI_of h0
  exact ⟨j, Nat.lt_of_not_le fun q => h (nI_le q h1), rfl⟩
/-- the reference's object and rows, behind seven cells (the class's) -/
abbrev wM (c0 c1 c2 c3 c4 c5 c6 : Nat × va_E) (y : Nat → Nat) (cI cZ : ClassId) (n ar : Nat) (gl lo pg ca : Int32) (ac : Nat) (hw : Int32) (K F T Ln Wy Fo Tk Ne : Nat → Int32) : va_W := [c0, c1, c2, c3, c4, c5, c6, (y 0, .inr (2, [.int (nI n), .int (nI ar), .int gl, .ref (y 1), .int lo, .int pg, .int ca, .int (nI ac), .ref (y 2), .ref (y 3), .ref (y 4), .int hw, .ref (y 5), .ref (y 6), .ref (y 7), .ref (y 8)])), (y 1, .inl (cI, 40, .inl K)), (y 2, .inl (cI, 300, .inl F)), (y 3, .inl (cI, 300, .inl T)), (y 4, .inl (cI, 300, .inl Ln)), (y 5, .inl (cI, 40, .inl Wy)), (y 6, .inl (cI, 40, .inl Fo)), (y 7, .inl (cZ, 40, .inl Tk)), (y 8, .inl (cZ, 40, .inl Ne))]
end
section
set_option maxHeartbeats 4000000 in
set_option maxRecDepth 100000 in
theorem sp_nlz (l : Launch) (k : Nat) (hk : k < 2 ^ 31) : Met l yJ6_numberOfLeadingZeros_0f7a4 (Cond.code yJ6_numberOfLeadingZeros_0f7a4 cJ6_numberOfLeadingZeros_0f7a4 2 (some .int) :: wsL_law) ({ frames := 0, cells := 0, slots := 0, locals := 0 } : Room) (va_Pc [.int (nI k)] (fun _ => True)) (vp_Si (fun r => r = nI (32 - fqbl k))) 0 0 (fun _ => False) := by
  refine Met.ofW (cc := cJ6_numberOfLeadingZeros_0f7a4) (maxL := 2) (ret := (some .int)) (by decide) rfl ?_
  intro p e s m args below meth c s₁ B0 hml hv
  obtain ⟨rfl, -⟩ := hv
  have hx := B0.exec
  have hb := B0.bytes
  have hr := B0.returns
  have hts0 := atoms_spec (ws := (Cond.code yJ6_numberOfLeadingZeros_0f7a4 cJ6_numberOfLeadingZeros_0f7a4 2 (some .int) :: wsL_law)) B0.pre
  have hts := fun w (h : w ∈ wsL_law) => hts0 w (List.mem_cons_of_mem _ h)
  have hown : s.vm.findClass RJ6 = some m.cls := findClass_of_methodNamed B0.named
  have hlocks := B0.notSynchronized
  have hF : CallFix p m c cJ6_numberOfLeadingZeros_0f7a4 2 s ([.int (nI k)] : List Value).toArray wsL_law RJ6 := ⟨hx, hb, hml, hown, hts⟩
  have hl := lv_entry ([.int (nI k)]) (n := 2) (Nat.le_of_ble_eq_true rfl)
  rw [lg_entry_eq]
  generalize (lg_sl ([.int (nI k)]) ++ List.replicate (2 - (lg_sl ([.int (nI k)])).length) Slot.unset).toArray = ls at hl ⊢
  have hl : lv_has ls 2 [(0, .int (nI k))] := hl
  have K73 : ∀ (a k' : Nat) (ls : Array Slot), 0 < k' → k' < 4 → a ≤ 31 → 1 ≤ a → fqbl k = fqbl k' + (31 - a) → lv_has ls 2 [(0, .int (nI k')), (1, .int (nI a))] → W p l e (headSpec (Cond.code yJ6_numberOfLeadingZeros_0f7a4 cJ6_numberOfLeadingZeros_0f7a4 2 (some .int) :: wsL_law) ({ frames := 0, cells := 0, slots := 0, locals := 0 } : Room)).room s m ([.int (nI k)] : List Value).toArray below meth c s.heap [] 0 0 (MQ below (vp_Si (fun r => r = nI (32 - fqbl k))) ([.int (nI k)] : List Value).toArray s 0 0 (fun _ => False)) (F0 m 73 ls []) := by
    intro a k' ls h0 h1 h2 h3 h4 hl
    refine lv_iload_n hx hb dJ6_numberOfLeadingZeros_0f7a4_73 rfl (lv_at hl 1 rfl) ?_
    refine lv_iload_n hx hb dJ6_numberOfLeadingZeros_0f7a4_74 rfl (lv_at hl 0 rfl) ?_
    refine lv_iconst (v := 1) hx hb dJ6_numberOfLeadingZeros_0f7a4_75 (by decide) ?_
    refine lv_iushr (v := nI (k' / 2 ^ 1)) hx hb dJ6_numberOfLeadingZeros_0f7a4_76 (pk_ushrN (n := k') (by omega) 1 1 (by decide)) ?_
    refine lv_isub hx hb dJ6_numberOfLeadingZeros_0f7a4_77 ?_
    have h5 := fqbl_3 h0 h1
    exact fx_sret hx hb hr hlocks dJ6_numberOfLeadingZeros_0f7a4_78 (by show (nI a) - (nI (k' / 2 ^ 1)) = _; rw [show k' / 2 ^ 1 = k' / 2 from rfl, pk_sub (by omega)]; congr 1; omega)
  have K61 : ∀ (a k' : Nat) (ls : Array Slot), 0 < k' → k' < 16 → a ≤ 31 → 3 ≤ a → fqbl k = fqbl k' + (31 - a) → lv_has ls 2 [(0, .int (nI k')), (1, .int (nI a))] → W p l e (headSpec (Cond.code yJ6_numberOfLeadingZeros_0f7a4 cJ6_numberOfLeadingZeros_0f7a4 2 (some .int) :: wsL_law) ({ frames := 0, cells := 0, slots := 0, locals := 0 } : Room)).room s m ([.int (nI k)] : List Value).toArray below meth c s.heap [] 0 0 (MQ below (vp_Si (fun r => r = nI (32 - fqbl k))) ([.int (nI k)] : List Value).toArray s 0 0 (fun _ => False)) (F0 m 61 ls []) := by
    intro a k' ls h0 h1 h2 h3 h4 hl
    refine lv_iload_n hx hb dJ6_numberOfLeadingZeros_0f7a4_61 rfl (lv_at hl 0 rfl) ?_
    refine lv_iconst (v := 4) hx hb dJ6_numberOfLeadingZeros_0f7a4_62 (by decide) ?_
    refine lv_icmp_lt (tgt := 73) hx hb dJ6_numberOfLeadingZeros_0f7a4_63 (by decide) (fun c_63 => ?_) (fun c_63 => ?_)
    · have hlt : k' < 4 := (nI_ltI (by omega) (by decide)).mp (show nI k' < nI 4 from c_63)
      exact K73 a k' ls h0 hlt h2 (by omega) h4 (lv_sub hl [0, 1] rfl)
    · have hge : 4 ≤ k' := Nat.le_of_not_lt fun h9 => c_63 (show nI k' < nI 4 from (nI_ltI (by omega) (by decide)).mpr h9)
      have h5 := fqbl_shift (x := k') (s := 2) (by omega)
      refine lv_iinc (v := nI (a - 2)) (lv' := [(1, .int (nI (a - 2))), (0, .int (nI k'))]) hx hb dJ6_numberOfLeadingZeros_0f7a4_66 hl (k := 1) rfl (fq_dec 2 (by omega) (by decide)) (by decide) rfl (fun ls hl => ?_)
      refine lv_iload_n hx hb dJ6_numberOfLeadingZeros_0f7a4_69 rfl (lv_at hl 1 rfl) ?_
      refine lv_iconst (v := 2) hx hb dJ6_numberOfLeadingZeros_0f7a4_70 (by decide) ?_
      refine lv_iushr (v := nI (k' / 2 ^ 2)) hx hb dJ6_numberOfLeadingZeros_0f7a4_71 (pk_ushrN (n := k') (by omega) 2 2 (by decide)) ?_
      refine lv_istore_n (lv' := [(0, .int (nI (k' / 2 ^ 2))), (1, .int (nI (a - 2)))]) hx hb dJ6_numberOfLeadingZeros_0f7a4_72 rfl hl (by decide) rfl (fun ls hl => ?_)
      exact K73 (a - 2) (k' / 2 ^ 2) ls (Nat.div_pos (by omega) (by decide)) (Nat.div_lt_of_lt_mul (by omega)) (by omega) (by omega) (by omega) (lv_sub hl [0, 1] rfl)
  have K48 : ∀ (a k' : Nat) (ls : Array Slot), 0 < k' → k' < 256 → a ≤ 31 → 7 ≤ a → fqbl k = fqbl k' + (31 - a) → lv_has ls 2 [(0, .int (nI k')), (1, .int (nI a))] → W p l e (headSpec (Cond.code yJ6_numberOfLeadingZeros_0f7a4 cJ6_numberOfLeadingZeros_0f7a4 2 (some .int) :: wsL_law) ({ frames := 0, cells := 0, slots := 0, locals := 0 } : Room)).room s m ([.int (nI k)] : List Value).toArray below meth c s.heap [] 0 0 (MQ below (vp_Si (fun r => r = nI (32 - fqbl k))) ([.int (nI k)] : List Value).toArray s 0 0 (fun _ => False)) (F0 m 48 ls []) := by
    intro a k' ls h0 h1 h2 h3 h4 hl
    refine lv_iload_n hx hb dJ6_numberOfLeadingZeros_0f7a4_48 rfl (lv_at hl 0 rfl) ?_
    refine lv_bipush (v := 16) hx hb dJ6_numberOfLeadingZeros_0f7a4_49 (by decide) ?_
    refine lv_icmp_lt (tgt := 61) hx hb dJ6_numberOfLeadingZeros_0f7a4_51 (by decide) (fun c_51 => ?_) (fun c_51 => ?_)
    · have hlt : k' < 16 := (nI_ltI (by omega) (by decide)).mp (show nI k' < nI 16 from c_51)
      exact K61 a k' ls h0 hlt h2 (by omega) h4 (lv_sub hl [0, 1] rfl)
    · have hge : 16 ≤ k' := Nat.le_of_not_lt fun h9 => c_51 (show nI k' < nI 16 from (nI_ltI (by omega) (by decide)).mpr h9)
      have h5 := fqbl_shift (x := k') (s := 4) (by omega)
      refine lv_iinc (v := nI (a - 4)) (lv' := [(1, .int (nI (a - 4))), (0, .int (nI k'))]) hx hb dJ6_numberOfLeadingZeros_0f7a4_54 hl (k := 1) rfl (fq_dec 4 (by omega) (by decide)) (by decide) rfl (fun ls hl => ?_)
      refine lv_iload_n hx hb dJ6_numberOfLeadingZeros_0f7a4_57 rfl (lv_at hl 1 rfl) ?_
      refine lv_iconst (v := 4) hx hb dJ6_numberOfLeadingZeros_0f7a4_58 (by decide) ?_
      refine lv_iushr (v := nI (k' / 2 ^ 4)) hx hb dJ6_numberOfLeadingZeros_0f7a4_59 (pk_ushrN (n := k') (by omega) 4 4 (by decide)) ?_
      refine lv_istore_n (lv' := [(0, .int (nI (k' / 2 ^ 4))), (1, .int (nI (a - 4)))]) hx hb dJ6_numberOfLeadingZeros_0f7a4_60 rfl hl (by decide) rfl (fun ls hl => ?_)
      exact K61 (a - 4) (k' / 2 ^ 4) ls (Nat.div_pos (by omega) (by decide)) (Nat.div_lt_of_lt_mul (by omega)) (by omega) (by omega) (by omega) (lv_sub hl [0, 1] rfl)
  have K33 : ∀ (a k' : Nat) (ls : Array Slot), 0 < k' → k' < 65536 → a ≤ 31 → 15 ≤ a → fqbl k = fqbl k' + (31 - a) → lv_has ls 2 [(0, .int (nI k')), (1, .int (nI a))] → W p l e (headSpec (Cond.code yJ6_numberOfLeadingZeros_0f7a4 cJ6_numberOfLeadingZeros_0f7a4 2 (some .int) :: wsL_law) ({ frames := 0, cells := 0, slots := 0, locals := 0 } : Room)).room s m ([.int (nI k)] : List Value).toArray below meth c s.heap [] 0 0 (MQ below (vp_Si (fun r => r = nI (32 - fqbl k))) ([.int (nI k)] : List Value).toArray s 0 0 (fun _ => False)) (F0 m 33 ls []) := by
    intro a k' ls h0 h1 h2 h3 h4 hl
    refine lv_iload_n hx hb dJ6_numberOfLeadingZeros_0f7a4_33 rfl (lv_at hl 0 rfl) ?_
    refine lv_sipush (v := 256) hx hb dJ6_numberOfLeadingZeros_0f7a4_34 (by decide) ?_
    refine lv_icmp_lt (tgt := 48) hx hb dJ6_numberOfLeadingZeros_0f7a4_37 (by decide) (fun c_37 => ?_) (fun c_37 => ?_)
    · have hlt : k' < 256 := (nI_ltI (by omega) (by decide)).mp (show nI k' < nI 256 from c_37)
      exact K48 a k' ls h0 hlt h2 (by omega) h4 (lv_sub hl [0, 1] rfl)
    · have hge : 256 ≤ k' := Nat.le_of_not_lt fun h9 => c_37 (show nI k' < nI 256 from (nI_ltI (by omega) (by decide)).mpr h9)
      have h5 := fqbl_shift (x := k') (s := 8) (by omega)
      refine lv_iinc (v := nI (a - 8)) (lv' := [(1, .int (nI (a - 8))), (0, .int (nI k'))]) hx hb dJ6_numberOfLeadingZeros_0f7a4_40 hl (k := 1) rfl (fq_dec 8 (by omega) (by decide)) (by decide) rfl (fun ls hl => ?_)
      refine lv_iload_n hx hb dJ6_numberOfLeadingZeros_0f7a4_43 rfl (lv_at hl 1 rfl) ?_
      refine lv_bipush (v := 8) hx hb dJ6_numberOfLeadingZeros_0f7a4_44 (by decide) ?_
      refine lv_iushr (v := nI (k' / 2 ^ 8)) hx hb dJ6_numberOfLeadingZeros_0f7a4_46 (pk_ushrN (n := k') (by omega) 8 8 (by decide)) ?_
      refine lv_istore_n (lv' := [(0, .int (nI (k' / 2 ^ 8))), (1, .int (nI (a - 8)))]) hx hb dJ6_numberOfLeadingZeros_0f7a4_47 rfl hl (by decide) rfl (fun ls hl => ?_)
      exact K48 (a - 8) (k' / 2 ^ 8) ls (Nat.div_pos (by omega) (by decide)) (Nat.div_lt_of_lt_mul (by omega)) (by omega) (by omega) (by omega) (lv_sub hl [0, 1] rfl)
  have K18 : ∀ (a k' : Nat) (ls : Array Slot), 0 < k' → k' < 2147483648 → a ≤ 31 → 31 ≤ a → fqbl k = fqbl k' + (31 - a) → lv_has ls 2 [(0, .int (nI k')), (1, .int (nI a))] → W p l e (headSpec (Cond.code yJ6_numberOfLeadingZeros_0f7a4 cJ6_numberOfLeadingZeros_0f7a4 2 (some .int) :: wsL_law) ({ frames := 0, cells := 0, slots := 0, locals := 0 } : Room)).room s m ([.int (nI k)] : List Value).toArray below meth c s.heap [] 0 0 (MQ below (vp_Si (fun r => r = nI (32 - fqbl k))) ([.int (nI k)] : List Value).toArray s 0 0 (fun _ => False)) (F0 m 18 ls []) := by
    intro a k' ls h0 h1 h2 h3 h4 hl
    refine lv_iload_n hx hb dJ6_numberOfLeadingZeros_0f7a4_18 rfl (lv_at hl 0 rfl) ?_
    refine lv_ldcw (v := 65536) hx hb hown (hts _ km_91) dJ6_numberOfLeadingZeros_0f7a4_19 ?_
    refine lv_icmp_lt (tgt := 33) hx hb dJ6_numberOfLeadingZeros_0f7a4_22 (by decide) (fun c_22 => ?_) (fun c_22 => ?_)
    · have hlt : k' < 65536 := (nI_ltI (by omega) (by decide)).mp (show nI k' < nI 65536 from c_22)
      exact K33 a k' ls h0 hlt h2 (by omega) h4 (lv_sub hl [0, 1] rfl)
    · have hge : 65536 ≤ k' := Nat.le_of_not_lt fun h9 => c_22 (show nI k' < nI 65536 from (nI_ltI (by omega) (by decide)).mpr h9)
      have h5 := fqbl_shift (x := k') (s := 16) (by omega)
      refine lv_iinc (v := nI (a - 16)) (lv' := [(1, .int (nI (a - 16))), (0, .int (nI k'))]) hx hb dJ6_numberOfLeadingZeros_0f7a4_25 hl (k := 1) rfl (fq_dec 16 (by omega) (by decide)) (by decide) rfl (fun ls hl => ?_)
      refine lv_iload_n hx hb dJ6_numberOfLeadingZeros_0f7a4_28 rfl (lv_at hl 1 rfl) ?_
      refine lv_bipush (v := 16) hx hb dJ6_numberOfLeadingZeros_0f7a4_29 (by decide) ?_
      refine lv_iushr (v := nI (k' / 2 ^ 16)) hx hb dJ6_numberOfLeadingZeros_0f7a4_31 (pk_ushrN (n := k') (by omega) 16 16 (by decide)) ?_
      refine lv_istore_n (lv' := [(0, .int (nI (k' / 2 ^ 16))), (1, .int (nI (a - 16)))]) hx hb dJ6_numberOfLeadingZeros_0f7a4_32 rfl hl (by decide) rfl (fun ls hl => ?_)
      exact K33 (a - 16) (k' / 2 ^ 16) ls (Nat.div_pos (by omega) (by decide)) (Nat.div_lt_of_lt_mul (by omega)) (by omega) (by omega) (by omega) (lv_sub hl [0, 1] rfl)
  refine lv_iload_n hx hb dJ6_numberOfLeadingZeros_0f7a4_0 rfl (lv_at hl 0 rfl) ?_
  refine lv_if_gt (tgt := 15) hx hb dJ6_numberOfLeadingZeros_0f7a4_1 (by decide) (fun c_1 => ?_) (fun c_1 => ?_)
  · have c_1 : 0 < k := Nat.pos_of_ne_zero fun h9 => by subst h9; exact absurd c_1 (by decide)
    refine lv_bipush (v := 31) hx hb dJ6_numberOfLeadingZeros_0f7a4_15 (by decide) ?_
    refine lv_istore_n (lv' := [(1, .int 31), (0, .int (nI k))]) hx hb dJ6_numberOfLeadingZeros_0f7a4_17 rfl hl (by decide) rfl (fun ls hl => ?_)
    exact K18 31 k ls c_1 hk (Nat.le_refl _) (Nat.le_refl _) (by omega) (lv_sub hl [1, 0] rfl)
  · have h0 : k = 0 := by
      rcases Nat.eq_zero_or_pos k with q | q
      · exact q
      · exact absurd ((nI_ltI (by decide) hk).mpr q) c_1
    subst h0
    refine lv_iload_n hx hb dJ6_numberOfLeadingZeros_0f7a4_4 rfl (lv_at hl 0 rfl) ?_
    refine lv_if_ne (tgt := 13) hx hb dJ6_numberOfLeadingZeros_0f7a4_5 (by decide) (fun c_5 => ?_) (fun c_5 => ?_)
    · exact absurd rfl c_5
    · refine lv_bipush (v := 32) hx hb dJ6_numberOfLeadingZeros_0f7a4_8 (by decide) ?_
      refine lv_goto (tgt := 14) hx hb dJ6_numberOfLeadingZeros_0f7a4_10 (by decide) ?_
      exact fx_sret hx hb hr hlocks dJ6_numberOfLeadingZeros_0f7a4_14 (rfl)
set_option maxHeartbeats 4000000 in
set_option maxRecDepth 100000 in
theorem sp_fill (l : Launch) (dC : Nat → ClassId) (dI : Nat → Nat → Nat) (A : Nat → Prop) (cI cA cZ : ClassId) (ws : va_W) (q0 a len : Nat) (f : Nat → Int32) (v : Int32) (ha : ws[q0]? = some (a, .inl (cI, len, .inl f))) (hlen : len < 2 ^ 31) : Met l yJ7_fill_53178 (Cond.code yJ7_fill_53178 cJ7_fill_53178 4 none :: wsL_law) ({ frames := 0, cells := 0, slots := 0, locals := 0 } : Room) (va_Pc [.ref a, .int v] (fx_Pre (dC, dI) classes (fq_ty cI cA cZ) A ws)) (va_Qv (S := (Nat → Int32)) (fun u => u = fqfill len v f) (fx_B (dC, dI) classes (fq_ty cI cA cZ) A (fun u => ws.set q0 (a, .inl (cI, len, .inl u)))) A) 0 0 A := by
  refine Met.ofW (cc := cJ7_fill_53178) (maxL := 4) (ret := none) (by decide) rfl ?_
  intro p e s m args below meth c s₁ B0 hml hv
  obtain ⟨rfl, hA, hP, hK, hD, hN⟩ := hv
  have hx := B0.exec
  have hb := B0.bytes
  have hr := B0.returns
  have hts0 := atoms_spec (ws := (Cond.code yJ7_fill_53178 cJ7_fill_53178 4 none :: wsL_law)) B0.pre
  have hts := fun w (h : w ∈ wsL_law) => hts0 w (List.mem_cons_of_mem _ h)
  have hown : s.vm.findClass RJ7 = some m.cls := findClass_of_methodNamed B0.named
  have hlocks := B0.notSynchronized
  have hF : CallFix p m c cJ7_fill_53178 4 s ([.ref a, .int v] : List Value).toArray wsL_law RJ7 := ⟨hx, hb, hml, hown, hts⟩
  have hS : va_S A s.heap s.heap [] := va_S.rf
  have hl := lv_entry ([.ref a, .int v]) (n := 4) (Nat.le_of_ble_eq_true rfl)
  rw [lg_entry_eq]
  generalize (lg_sl ([.ref a, .int v]) ++ List.replicate (4 - (lg_sl ([.ref a, .int v])).length) Slot.unset).toArray = ls at hl ⊢
  have hl : lv_has ls 4 [(0, .ref a), (1, .int v)] := hl
  refine lv_iconst (v := 0) hx hb dJ7_fill_53178_0 (by decide) ?_
  refine lv_istore_n (lv' := [(2, .int 0), (0, .ref a), (1, .int v)]) hx hb dJ7_fill_53178_1 rfl hl (by decide) rfl (fun ls hl => ?_)
  refine lv_aload_n hx hb dJ7_fill_53178_2 rfl (lv_at hl 1 rfl) ?_
  refine va_alen (v := nI len) hx hb hK hP q0 0 ha rfl rfl dJ7_fill_53178_3 ?_
  refine lv_istore_n (lv' := [(3, .int (nI len)), (2, .int 0), (0, .ref a), (1, .int v)]) hx hb dJ7_fill_53178_4 rfl hl (by decide) rfl (fun ls hl => ?_)
  have K : ∀ (d i : Nat) (H : Heap) (locs : List Loc) (ls : Array Slot), i ≤ len → len - i < d → va_P (dC, dI) classes (ws.set q0 (a, .inl (cI, len, .inl (fun j => if j < i then v else f j)))) H → va_D A (ws.set q0 (a, .inl (cI, len, .inl (fun j => if j < i then v else f j)))) → va_S A s.heap H locs → lv_has ls 4 [(0, .ref a), (1, .int v), (2, .int (nI i)), (3, .int (nI len))] → W p l e (headSpec (Cond.code yJ7_fill_53178 cJ7_fill_53178 4 none :: wsL_law) ({ frames := 0, cells := 0, slots := 0, locals := 0 } : Room)).room s m ([.ref a, .int v] : List Value).toArray below meth c H locs 0 0 (MQ below (va_Qv (S := (Nat → Int32)) (fun u => u = fqfill len v f) (fx_B (dC, dI) classes (fq_ty cI cA cZ) A (fun u => ws.set q0 (a, .inl (cI, len, .inl u)))) A) ([.ref a, .int v] : List Value).toArray s 0 0 A) (F0 m 5 ls []) := by
    intro d
    induction d with
    | zero => intro i H locs ls _ h; omega
    | succ d ih =>
      intro i H locs ls hi hd hP hD hS hl
      have hq : (ws.set q0 (a, .inl (cI, len, .inl (fun j => if j < i then v else f j))))[q0]? = some (a, .inl (cI, len, .inl (fun j => if j < i then v else f j))) := List.getElem?_set_self (List.getElem?_eq_some_iff.mp ha).1
      refine lv_iload_n hx hb dJ7_fill_53178_5 rfl (lv_at hl 2 rfl) ?_
      refine lv_iload_n hx hb dJ7_fill_53178_6 rfl (lv_at hl 3 rfl) ?_
      refine lv_icmp_ge (tgt := 20) hx hb dJ7_fill_53178_7 (by decide) (fun c_7 => ?_) (fun c_7 => ?_)
      · have e1 : i = len := Nat.le_antisymm hi ((nI_leI hlen (by omega)).mp c_7)
        have e2 : (fun j => if j < i then v else f j) = fqfill len v f := by rw [e1]; rfl
        rw [e2] at hP hD
        exact fx_vret hx hb hr hlocks hK hS dJ7_fill_53178_20 (fqfill len v f) rfl hP hD
      · have h1 : i < len := Nat.lt_of_not_le fun h9 => c_7 ((nI_leI hlen (by omega)).mpr h9)
        refine lv_aload_n hx hb dJ7_fill_53178_10 rfl (lv_at hl 0 rfl) ?_
        refine lv_iload_n hx hb dJ7_fill_53178_11 rfl (lv_at hl 2 rfl) ?_
        refine lv_iload_n hx hb dJ7_fill_53178_12 rfl (lv_at hl 1 rfl) ?_
        refine fx_ast hx hb hK hP hD hS q0 0 hq rfl i rfl h1 hlen dJ7_fill_53178_13 (fun H locs hP hD hS => ?_)
        have e2 : upd (fun j => if j < i then v else f j) i v = (fun j => if j < i + 1 then v else f j) := by
          funext j
          show (if j = i then v else if j < i then v else f j) = if j < i + 1 then v else f j
          by_cases h2 : j = i
          · subst h2; simp
          · by_cases h3 : j < i
            · rw [if_neg h2, if_pos h3, if_pos (by omega)]
            · rw [if_neg h2, if_neg h3, if_neg (by omega)]
        rw [List.set_set, e2] at hP hD
        refine lv_iinc (v := nI (i + 1)) (lv' := [(2, .int (nI (i + 1))), (0, .ref a), (1, .int v), (3, .int (nI len))]) hx hb dJ7_fill_53178_14 hl (k := 2) rfl (nI_1 i) (by decide) rfl (fun ls hl => ?_)
        refine lv_goto (tgt := 5) hx hb dJ7_fill_53178_17 (by decide) ?_
        exact ih (i + 1) H locs ls (by omega) (by omega) hP hD hS (lv_sub hl [1, 2, 0, 3] rfl)
  have e0 : ws.set q0 (a, .inl (cI, len, .inl (fun j => if j < 0 then v else f j))) = ws := by
    have e1 : (fun j => if j < 0 then v else f j) = f := by funext j; simp
    rw [e1]
    exact fq_setself ha
  exact K (len + 1) 0 s.heap [] ls (Nat.zero_le _) (by omega) (by rw [e0]; exact hP) (by rw [e0]; exact hD) hS (lv_sub hl [2, 3, 1, 0] rfl)
end
section
theorem cw_RX1_56 {R : Room} {s : State} {args : Array Value} {rm : Room} (hts : ∀ w ∈ wsL_law, w.before args s = true) (hR : rm.frames + 1 ≤ R.frames ∧ 8 + (2 + 11) + rm.locals ≤ R.locals) : CallW R s args RX1 RX1 56 yX1_isItem cX1_isItem 2 (some .boolean) (Cond.code yX1_isItem cX1_isItem 2 (some .boolean) :: wsL_law) rm rm.cells rm.slots 1 := cwV 1 hts (km_app (km_four km_66 km_67 km_68 km_2) (km_in km_69)) rfl rfl rfl (by decide +kernel) hR
theorem cw_RX1_123 {R : Room} {s : State} {args : Array Value} {rm : Room} (hts : ∀ w ∈ wsL_law, w.before args s = true) (hR : rm.frames + 1 ≤ R.frames ∧ 8 + (2 + 11) + rm.locals ≤ R.locals) : CallB R s args RX1 123 yJ6_numberOfLeadingZeros_0f7a4 cJ6_numberOfLeadingZeros_0f7a4 2 (some .int) (Cond.code yJ6_numberOfLeadingZeros_0f7a4 cJ6_numberOfLeadingZeros_0f7a4 2 (some .int) :: wsL_law) rm rm.cells rm.slots 1 ∧ (Cond.static yJ6_numberOfLeadingZeros_0f7a4).before args s = true := va_cwS 1 hts (km_app (km_three km_87 km_88 km_89) (km_in km_90)) rfl rfl rfl (by decide +kernel) hR
theorem cw_RX1_76 {R : Room} {s : State} {args : Array Value} {rm : Room} (hts : ∀ w ∈ wsL_law, w.before args s = true) (hR : rm.frames + 1 ≤ R.frames ∧ 8 + (2 + 11) + rm.locals ≤ R.locals) : CallW R s args RX1 RX1 76 yX1_bucketFor cX1_bucketFor 2 (some .int) (Cond.code yX1_bucketFor cX1_bucketFor 2 (some .int) :: wsL_law) rm rm.cells rm.slots 1 := cwV 1 hts (km_app (km_four km_83 km_84 km_85 km_2) (km_in km_86)) rfl rfl rfl (by decide +kernel) hR
set_option maxHeartbeats 4000000 in
set_option maxRecDepth 100000 in
theorem sp_isItem (l : Launch) (dC : Nat → ClassId) (dI : Nat → Nat → Nat) (A : Nat → Prop) (cI cA cZ : ClassId) (rest : va_W) (z : Nat → Nat) (n : Nat) (hn : n ≤ 40) (ar gl : Int32) (fl pr pg ky ac : Int32) (K B M Ds Bf : Nat → Int32) (L : Nat → Option Nat) (x : Int32)  : Met l yX1_isItem (Cond.code yX1_isItem cX1_isItem 2 (some .boolean) :: wsL_law) ({ frames := 0, cells := 0, slots := 0, locals := 0 } : Room) (va_Pc [.ref (z 0), .int x] (fx_Pre (dC, dI) classes (fq_ty cI cA cZ) A (wX z cI cA n ar gl fl pr pg ky ac K B M Ds Bf L ++ rest))) (vp_Si (fun r => (r = 1 ∧ ∃ j, j < n ∧ x = nI j) ∨ (r = 0 ∧ ∀ j, j < n → x ≠ nI j))) 0 0 (fun _ => False) := by
  refine Met.ofW (cc := cX1_isItem) (maxL := 2) (ret := (some .boolean)) (by decide) rfl ?_
  intro p e s m args below meth c s₁ B0 hml hv
  obtain ⟨rfl, hA, hP, hK, hD, hN⟩ := hv
  have hx := B0.exec
  have hb := B0.bytes
  have hr := B0.returns
  have hts0 := atoms_spec (ws := (Cond.code yX1_isItem cX1_isItem 2 (some .boolean) :: wsL_law)) B0.pre
  have hts := fun w (h : w ∈ wsL_law) => hts0 w (List.mem_cons_of_mem _ h)
  have hown : s.vm.findClass RX1 = some m.cls := findClass_of_methodNamed B0.named
  have hlocks := B0.notSynchronized
  have hF : CallFix p m c cX1_isItem 2 s ([.ref (z 0), .int x] : List Value).toArray wsL_law RX1 := ⟨hx, hb, hml, hown, hts⟩
  have hS : va_S A s.heap s.heap [] := va_S.rf
  have hl := lv_entry ([.ref (z 0), .int x]) (n := 2) (Nat.le_of_ble_eq_true rfl)
  rw [lg_entry_eq]
  generalize (lg_sl ([.ref (z 0), .int x]) ++ List.replicate (2 - (lg_sl ([.ref (z 0), .int x])).length) Slot.unset).toArray = ls at hl ⊢
  have hl : lv_has ls 2 [(0, .ref (z 0)), (1, .int x)] := hl
  have hn31 : n < 2 ^ 31 := by omega
  refine lv_iload_n hx hb dX1_isItem_0 rfl (lv_at hl 1 rfl) ?_
  refine lv_if_lt (tgt := 16) hx hb dX1_isItem_1 (by decide) (fun c_1 => ?_) (fun c_1 => ?_)
  · refine lv_iconst (v := 0) hx hb dX1_isItem_16 (by decide) ?_
    exact fx_bret hx hb hr (Or.inl rfl) hlocks dX1_isItem_17 (Or.inr ⟨rfl, fun j hj e => absurd c_1 (e ▸ nI_pos (by omega))⟩)
  · refine lv_iload_n hx hb dX1_isItem_4 rfl (lv_at hl 1 rfl) ?_
    refine lv_aload_n hx hb dX1_isItem_5 rfl (lv_at hl 0 rfl) ?_
    refine va_get (D := (dC, dI)) (ci := 0) (v := .int (nI n)) (C := RX1) (T := TX1) (N := 14) hx hb hts inlX1 hown hK hP 0 rfl rfl 0 (by decide) (hts _ km_23) (fun _ h9 => h9) rfl dX1_isItem_6 ?_
    refine lv_icmp_ge (tgt := 16) hx hb dX1_isItem_9 (by decide) (fun c_9 => ?_) (fun c_9 => ?_)
    · refine lv_iconst (v := 0) hx hb dX1_isItem_16 (by decide) ?_
      exact fx_bret hx hb hr (Or.inl rfl) hlocks dX1_isItem_17 (Or.inr ⟨rfl, fun j hj e => absurd c_9 (e ▸ nI_ge hj hn31)⟩)
    · refine lv_iconst (v := 1) hx hb dX1_isItem_12 (by decide) ?_
      refine lv_goto (tgt := 17) hx hb dX1_isItem_13 (by decide) ?_
      exact fx_bret hx hb hr (Or.inr rfl) hlocks dX1_isItem_17 (Or.inl ⟨rfl, fq_ix hn31 c_1 c_9⟩)
set_option maxHeartbeats 4000000 in
set_option maxRecDepth 100000 in
theorem sp_isThere (l : Launch) (dC : Nat → ClassId) (dI : Nat → Nat → Nat) (A : Nat → Prop) (cI cA cZ : ClassId) (rest : va_W) (z : Nat → Nat) (n : Nat) (hn : n ≤ 40) (ar gl : Int32) (fl pr pg ky ac : Int32) (K B M Ds Bf : Nat → Int32) (L : Nat → Option Nat) (x : Int32)  : Met l yX1_isThere (Cond.code yX1_isThere cX1_isThere 2 (some .boolean) :: wsL_law) ({ frames := 1, cells := 0, slots := 0, locals := 21 } : Room) (va_Pc [.ref (z 0), .int x] (fx_Pre (dC, dI) classes (fq_ty cI cA cZ) A (wX z cI cA n ar gl fl pr pg ky ac K B M Ds Bf L ++ rest))) (vp_Si (fun r => (r = 1 ∧ ∃ j, j < n ∧ x = nI j ∧ B j ≠ -1) ∨ (r = 0 ∧ ∀ j, j < n → x = nI j → B j = -1))) 0 0 (fun _ => False) := by
  refine Met.ofW (cc := cX1_isThere) (maxL := 2) (ret := (some .boolean)) (by decide) rfl ?_
  intro p e s m args below meth c s₁ B0 hml hv
  obtain ⟨rfl, hA, hP, hK, hD, hN⟩ := hv
  have hx := B0.exec
  have hb := B0.bytes
  have hr := B0.returns
  have hts0 := atoms_spec (ws := (Cond.code yX1_isThere cX1_isThere 2 (some .boolean) :: wsL_law)) B0.pre
  have hts := fun w (h : w ∈ wsL_law) => hts0 w (List.mem_cons_of_mem _ h)
  have hown : s.vm.findClass RX1 = some m.cls := findClass_of_methodNamed B0.named
  have hlocks := B0.notSynchronized
  have hF : CallFix p m c cX1_isThere 2 s ([.ref (z 0), .int x] : List Value).toArray wsL_law RX1 := ⟨hx, hb, hml, hown, hts⟩
  have hS : va_S A s.heap s.heap [] := va_S.rf
  have hl := lv_entry ([.ref (z 0), .int x]) (n := 2) (Nat.le_of_ble_eq_true rfl)
  rw [lg_entry_eq]
  generalize (lg_sl ([.ref (z 0), .int x]) ++ List.replicate (2 - (lg_sl ([.ref (z 0), .int x])).length) Slot.unset).toArray = ls at hl ⊢
  have hl : lv_has ls 2 [(0, .ref (z 0)), (1, .int x)] := hl
  have hn31 : n < 2 ^ 31 := by omega
  refine lv_aload_n hx hb dX1_isThere_0 rfl (lv_at hl 0 rfl) ?_
  refine lv_iload_n hx hb dX1_isThere_1 rfl (lv_at hl 1 rfl) ?_
  refine fx_Vs (rest := []) (sp_isItem l dC dI A cI cA cZ rest z n hn ar gl fl pr pg ky ac K B M Ds Bf L x) hF (cw_RX1_56 hts ⟨Nat.le_of_ble_eq_true rfl, Nat.le_of_ble_eq_true rfl⟩) hA hS hP hK hD hN 0 0 rfl rfl rfl hl.1 rfl (Nat.le_of_ble_eq_true rfl) dX1_isThere_2 ⟨Nat.le_of_ble_eq_true rfl, Nat.le_of_ble_eq_true rfl⟩ (fun r h => ?_)
  rcases h with ⟨rfl, ⟨j, hj, rfl⟩⟩ | ⟨rfl, h⟩
  · refine lv_if_eq (tgt := 22) hx hb dX1_isThere_5 (by decide) (fun h9 => absurd h9 (by decide)) (fun _ => ?_)
    refine lv_aload_n hx hb dX1_isThere_8 rfl (lv_at hl 0 rfl) ?_
    refine va_get (D := (dC, dI)) (ci := 0) (v := .ref (z 2)) (C := RX1) (T := TX1) (N := 14) hx hb hts inlX1 hown hK hP 0 rfl rfl 4 (by decide) (hts _ km_28) (fun _ h9 => h9) rfl dX1_isThere_9 ?_
    refine lv_iload_n hx hb dX1_isThere_12 rfl (lv_at hl 1 rfl) ?_
    refine fx_ald hx hb hK hP 2 0 rfl rfl j rfl hj hn31 dX1_isThere_13 ?_
    refine lv_iconst (v := (-1)) hx hb dX1_isThere_14 (by decide) ?_
    refine lv_icmp_eq (tgt := 22) hx hb dX1_isThere_15 (by decide) (fun c_15 => ?_) (fun c_15 => ?_)
    · refine lv_iconst (v := 0) hx hb dX1_isThere_22 (by decide) ?_
      exact fx_bret hx hb hr (Or.inl rfl) hlocks dX1_isThere_23 (Or.inr ⟨rfl, fun j9 hj9 e => by rw [← (nI_eq (by omega) (by omega)).mp e]; exact c_15⟩)
    · refine lv_iconst (v := 1) hx hb dX1_isThere_18 (by decide) ?_
      refine lv_goto (tgt := 23) hx hb dX1_isThere_19 (by decide) ?_
      exact fx_bret hx hb hr (Or.inr rfl) hlocks dX1_isThere_23 (Or.inl ⟨rfl, j, hj, rfl, c_15⟩)
  · refine lv_if_eq (tgt := 22) hx hb dX1_isThere_5 (by decide) (fun _ => ?_) (fun h9 => absurd h9 (by decide))
    refine lv_iconst (v := 0) hx hb dX1_isThere_22 (by decide) ?_
    exact fx_bret hx hb hr (Or.inl rfl) hlocks dX1_isThere_23 (Or.inr ⟨rfl, fun j hj e => absurd e (h j hj)⟩)
set_option maxHeartbeats 4000000 in
set_option maxRecDepth 100000 in
theorem sp_bucketFor (l : Launch) (dC : Nat → ClassId) (dI : Nat → Nat → Nat) (A : Nat → Prop) (cI cA cZ : ClassId) (rest : va_W) (z : Nat → Nat) (n : Nat) (hn : n ≤ 40) (ar gl : Int32) (fl pr pg ky ac : Int32) (K B M Ds Bf : Nat → Int32) (L : Nat → Option Nat) (x : Int32) (hx0 : ¬ x < 0) (hfl : ¬ fl < 0) : Met l yX1_bucketFor (Cond.code yX1_bucketFor cX1_bucketFor 2 (some .int) :: wsL_law) ({ frames := 1, cells := 0, slots := 0, locals := 21 } : Room) (va_Pc [.ref (z 0), .int x] (fx_Pre (dC, dI) classes (fq_ty cI cA cZ) A (wX z cI cA n ar gl fl pr pg ky ac K B M Ds Bf L ++ rest))) (vp_Si (fun r => r = nI (fqk x fl))) 0 0 (fun _ => False) := by
  refine Met.ofW (cc := cX1_bucketFor) (maxL := 2) (ret := (some .int)) (by decide) rfl ?_
  intro p e s m args below meth c s₁ B0 hml hv
  obtain ⟨rfl, hA, hP, hK, hD, hN⟩ := hv
  have hx := B0.exec
  have hb := B0.bytes
  have hr := B0.returns
  have hts0 := atoms_spec (ws := (Cond.code yX1_bucketFor cX1_bucketFor 2 (some .int) :: wsL_law)) B0.pre
  have hts := fun w (h : w ∈ wsL_law) => hts0 w (List.mem_cons_of_mem _ h)
  have hown : s.vm.findClass RX1 = some m.cls := findClass_of_methodNamed B0.named
  have hlocks := B0.notSynchronized
  have hF : CallFix p m c cX1_bucketFor 2 s ([.ref (z 0), .int x] : List Value).toArray wsL_law RX1 := ⟨hx, hb, hml, hown, hts⟩
  have hS : va_S A s.heap s.heap [] := va_S.rf
  have hl := lv_entry ([.ref (z 0), .int x]) (n := 2) (Nat.le_of_ble_eq_true rfl)
  rw [lg_entry_eq]
  generalize (lg_sl ([.ref (z 0), .int x]) ++ List.replicate (2 - (lg_sl ([.ref (z 0), .int x])).length) Slot.unset).toArray = ls at hl ⊢
  have hl : lv_has ls 2 [(0, .ref (z 0)), (1, .int x)] := hl
  have hn31 : n < 2 ^ 31 := by omega
  refine lv_bipush (v := 32) hx hb dX1_bucketFor_0 (by decide) ?_
  refine lv_iload_n hx hb dX1_bucketFor_2 rfl (lv_at hl 1 rfl) ?_
  refine lv_aload_n hx hb dX1_bucketFor_3 rfl (lv_at hl 0 rfl) ?_
  refine va_get (D := (dC, dI)) (ci := 0) (v := .int fl) (C := RX1) (T := TX1) (N := 14) hx hb hts inlX1 hown hK hP 0 rfl rfl 6 (by decide) (hts _ km_63) (fun _ h9 => h9) rfl dX1_bucketFor_4 ?_
  refine lv_ixor hx hb dX1_bucketFor_7 ?_
  have e1 : x ^^^ fl = nI (fqn x ^^^ fqn fl) := by
    have h1 := nx_xor (fqn x) (fqn fl)
    rw [nI_fqn hx0, nI_fqn hfl] at h1
    exact h1
  refine fx_is e1 ?_
  refine fx_Ss (rest := [.int 32]) (sp_nlz l (fqn x ^^^ fqn fl) (Nat.xor_lt_two_pow (fqn_lt x) (fqn_lt fl))) hF (cw_RX1_123 hts ⟨Nat.le_of_ble_eq_true rfl, Nat.le_of_ble_eq_true rfl⟩) rfl hl.1 rfl (Nat.le_of_ble_eq_true rfl) dX1_bucketFor_8 ⟨Nat.le_of_ble_eq_true rfl, Nat.le_of_ble_eq_true rfl⟩ (fun r h => ?_)
  subst h
  refine lv_isub hx hb dX1_bucketFor_11 ?_
  exact fx_sret hx hb hr hlocks dX1_bucketFor_12 (by have h2 := fqk_lt x fl; unfold fqk at h2 ⊢; show nI 32 - nI (32 - _) = _; rw [pk_sub (by omega)]; congr 1; omega)
set_option maxHeartbeats 4000000 in
set_option maxRecDepth 100000 in
theorem sp_isWhere (l : Launch) (dC : Nat → ClassId) (dI : Nat → Nat → Nat) (A : Nat → Prop) (cI cA cZ : ClassId) (rest : va_W) (z : Nat → Nat) (n : Nat) (hn : n ≤ 40) (ar gl : Int32) (fl pr pg ky ac : Int32) (K B M Ds Bf : Nat → Int32) (L : Nat → Option Nat) (j : Nat) (hj : j < n) (hk0 : ¬ K j < 0) (hfl : ¬ fl < 0) : Met l yX1_isWhereItBelongs (Cond.code yX1_isWhereItBelongs cX1_isWhereItBelongs 2 (some .boolean) :: wsL_law) ({ frames := 2, cells := 0, slots := 0, locals := 42 } : Room) (va_Pc [.ref (z 0), .int (nI j)] (fx_Pre (dC, dI) classes (fq_ty cI cA cZ) A (wX z cI cA n ar gl fl pr pg ky ac K B M Ds Bf L ++ rest))) (vp_Si (fun r => (r = 1 ∧ fl ≤ K j ∧ B j = nI (fqk (K j) fl)) ∨ (r = 0 ∧ ¬ (fl ≤ K j ∧ B j = nI (fqk (K j) fl))))) 0 0 (fun _ => False) := by
  refine Met.ofW (cc := cX1_isWhereItBelongs) (maxL := 2) (ret := (some .boolean)) (by decide) rfl ?_
  intro p e s m args below meth c s₁ B0 hml hv
  obtain ⟨rfl, hA, hP, hK, hD, hN⟩ := hv
  have hx := B0.exec
  have hb := B0.bytes
  have hr := B0.returns
  have hts0 := atoms_spec (ws := (Cond.code yX1_isWhereItBelongs cX1_isWhereItBelongs 2 (some .boolean) :: wsL_law)) B0.pre
  have hts := fun w (h : w ∈ wsL_law) => hts0 w (List.mem_cons_of_mem _ h)
  have hown : s.vm.findClass RX1 = some m.cls := findClass_of_methodNamed B0.named
  have hlocks := B0.notSynchronized
  have hF : CallFix p m c cX1_isWhereItBelongs 2 s ([.ref (z 0), .int (nI j)] : List Value).toArray wsL_law RX1 := ⟨hx, hb, hml, hown, hts⟩
  have hS : va_S A s.heap s.heap [] := va_S.rf
  have hl := lv_entry ([.ref (z 0), .int (nI j)]) (n := 2) (Nat.le_of_ble_eq_true rfl)
  rw [lg_entry_eq]
  generalize (lg_sl ([.ref (z 0), .int (nI j)]) ++ List.replicate (2 - (lg_sl ([.ref (z 0), .int (nI j)])).length) Slot.unset).toArray = ls at hl ⊢
  have hl : lv_has ls 2 [(0, .ref (z 0)), (1, .int (nI j))] := hl
  have hn31 : n < 2 ^ 31 := by omega
  refine lv_aload_n hx hb dX1_isWhereItBelongs_0 rfl (lv_at hl 0 rfl) ?_
  refine va_get (D := (dC, dI)) (ci := 0) (v := .ref (z 1)) (C := RX1) (T := TX1) (N := 14) hx hb hts inlX1 hown hK hP 0 rfl rfl 3 (by decide) (hts _ km_27) (fun _ h9 => h9) rfl dX1_isWhereItBelongs_1 ?_
  refine lv_iload_n hx hb dX1_isWhereItBelongs_4 rfl (lv_at hl 1 rfl) ?_
  refine fx_ald hx hb hK hP 1 0 rfl rfl j rfl hj hn31 dX1_isWhereItBelongs_5 ?_
  refine lv_aload_n hx hb dX1_isWhereItBelongs_6 rfl (lv_at hl 0 rfl) ?_
  refine va_get (D := (dC, dI)) (ci := 0) (v := .int fl) (C := RX1) (T := TX1) (N := 14) hx hb hts inlX1 hown hK hP 0 rfl rfl 6 (by decide) (hts _ km_63) (fun _ h9 => h9) rfl dX1_isWhereItBelongs_7 ?_
  refine lv_icmp_lt (tgt := 36) hx hb dX1_isWhereItBelongs_10 (by decide) (fun c_10 => ?_) (fun c_10 => ?_)
  · refine lv_iconst (v := 0) hx hb dX1_isWhereItBelongs_36 (by decide) ?_
    exact fx_bret hx hb hr (Or.inl rfl) hlocks dX1_isWhereItBelongs_37 (Or.inr ⟨rfl, fun h9 => absurd c_10 (Int32.not_lt.mpr h9.1)⟩)
  · refine lv_aload_n hx hb dX1_isWhereItBelongs_13 rfl (lv_at hl 0 rfl) ?_
    refine va_get (D := (dC, dI)) (ci := 0) (v := .ref (z 2)) (C := RX1) (T := TX1) (N := 14) hx hb hts inlX1 hown hK hP 0 rfl rfl 4 (by decide) (hts _ km_28) (fun _ h9 => h9) rfl dX1_isWhereItBelongs_14 ?_
    refine lv_iload_n hx hb dX1_isWhereItBelongs_17 rfl (lv_at hl 1 rfl) ?_
    refine fx_ald hx hb hK hP 2 0 rfl rfl j rfl hj hn31 dX1_isWhereItBelongs_18 ?_
    refine lv_aload_n hx hb dX1_isWhereItBelongs_19 rfl (lv_at hl 0 rfl) ?_
    refine lv_aload_n hx hb dX1_isWhereItBelongs_20 rfl (lv_at hl 0 rfl) ?_
    refine va_get (D := (dC, dI)) (ci := 0) (v := .ref (z 1)) (C := RX1) (T := TX1) (N := 14) hx hb hts inlX1 hown hK hP 0 rfl rfl 3 (by decide) (hts _ km_27) (fun _ h9 => h9) rfl dX1_isWhereItBelongs_21 ?_
    refine lv_iload_n hx hb dX1_isWhereItBelongs_24 rfl (lv_at hl 1 rfl) ?_
    refine fx_ald hx hb hK hP 1 0 rfl rfl j rfl hj hn31 dX1_isWhereItBelongs_25 ?_
    refine fx_Vs (rest := [.int (B j)]) (sp_bucketFor l dC dI A cI cA cZ rest z n hn ar gl fl pr pg ky ac K B M Ds Bf L (K j) hk0 hfl) hF (cw_RX1_76 hts ⟨Nat.le_of_ble_eq_true rfl, Nat.le_of_ble_eq_true rfl⟩) hA hS hP hK hD hN 0 0 rfl rfl rfl hl.1 rfl (Nat.le_of_ble_eq_true rfl) dX1_isWhereItBelongs_26 ⟨Nat.le_of_ble_eq_true rfl, Nat.le_of_ble_eq_true rfl⟩ (fun r h => ?_)
    subst h
    refine lv_icmp_ne (tgt := 36) hx hb dX1_isWhereItBelongs_29 (by decide) (fun c_29 => ?_) (fun c_29 => ?_)
    · refine lv_iconst (v := 0) hx hb dX1_isWhereItBelongs_36 (by decide) ?_
      exact fx_bret hx hb hr (Or.inl rfl) hlocks dX1_isWhereItBelongs_37 (Or.inr ⟨rfl, fun h9 => c_29 h9.2⟩)
    · refine lv_iconst (v := 1) hx hb dX1_isWhereItBelongs_32 (by decide) ?_
      refine lv_goto (tgt := 37) hx hb dX1_isWhereItBelongs_33 (by decide) ?_
      exact fx_bret hx hb hr (Or.inr rfl) hlocks dX1_isWhereItBelongs_37 (Or.inl ⟨rfl, Int32.not_lt.mp c_10, c_29⟩)
end
section
theorem cw_RX1_128 {R : Room} {s : State} {args : Array Value} {rm : Room} (hts : ∀ w ∈ wsL_law, w.before args s = true) (hR : rm.frames + 1 ≤ R.frames ∧ 8 + (3 + 11) + rm.locals ≤ R.locals) : CallW R s args RX1 RX1 128 yX1_leaveBucket cX1_leaveBucket 3 none (Cond.code yX1_leaveBucket cX1_leaveBucket 3 none :: wsL_law) rm rm.cells rm.slots 1 := cwV 1 hts (km_app (km_four km_79 km_80 km_81 km_2) (km_in km_82)) rfl rfl rfl (by decide +kernel) hR
theorem cw_RX1_60 {R : Room} {s : State} {args : Array Value} {rm : Room} (hts : ∀ w ∈ wsL_law, w.before args s = true) (hR : rm.frames + 1 ≤ R.frames ∧ 8 + (2 + 11) + rm.locals ≤ R.locals) : CallW R s args RX1 RX1 60 yX1_isThere cX1_isThere 2 (some .boolean) (Cond.code yX1_isThere cX1_isThere 2 (some .boolean) :: wsL_law) rm rm.cells rm.slots 1 := cwV 1 hts (km_app (km_four km_70 km_71 km_72 km_2) (km_in km_73)) rfl rfl rfl (by decide +kernel) hR
set_option maxHeartbeats 4000000 in
set_option maxRecDepth 100000 in
theorem sp_leave (l : Launch) (dC : Nat → ClassId) (dI : Nat → Nat → Nat) (A : Nat → Prop) (cI cA cZ : ClassId) (rest : va_W) (z : Nat → Nat) (n : Nat) (hn : n ≤ 40) (ar gl : Int32) (fl pr pg ky ac : Int32) (K B M Ds Bf : Nat → Int32) (L : Nat → Option Nat) (j : Nat) (hj : j < n) (hB : B j = -1 ∨ ∃ b, b < 32 ∧ B j = nI b) : Met l yX1_leaveBucket (Cond.code yX1_leaveBucket cX1_leaveBucket 3 none :: wsL_law) ({ frames := 0, cells := 0, slots := 0, locals := 0 } : Room) (va_Pc [.ref (z 0), .int (nI j)] (fx_Pre (dC, dI) classes (fq_ty cI cA cZ) A (wX z cI cA n ar gl fl pr pg ky ac K B M Ds Bf L ++ rest))) (va_Qv (S := fqQ) (fun u => u = fqleave (fl, pr, pg, ky, K, B, M) j) (fx_B (dC, dI) classes (fq_ty cI cA cZ) A (fun u : fqQ => wX z cI cA n ar gl u.1 u.2.1 u.2.2.1 u.2.2.2.1 ac u.2.2.2.2.1 u.2.2.2.2.2.1 u.2.2.2.2.2.2 Ds Bf L ++ rest)) A) 0 0 A := by
  refine Met.ofW (cc := cX1_leaveBucket) (maxL := 3) (ret := none) (by decide) rfl ?_
  intro p e s m args below meth c s₁ B0 hml hv
  obtain ⟨rfl, hA, hP, hK, hD, hN⟩ := hv
  have hx := B0.exec
  have hb := B0.bytes
  have hr := B0.returns
  have hts0 := atoms_spec (ws := (Cond.code yX1_leaveBucket cX1_leaveBucket 3 none :: wsL_law)) B0.pre
  have hts := fun w (h : w ∈ wsL_law) => hts0 w (List.mem_cons_of_mem _ h)
  have hown : s.vm.findClass RX1 = some m.cls := findClass_of_methodNamed B0.named
  have hlocks := B0.notSynchronized
  have hF : CallFix p m c cX1_leaveBucket 3 s ([.ref (z 0), .int (nI j)] : List Value).toArray wsL_law RX1 := ⟨hx, hb, hml, hown, hts⟩
  have hS : va_S A s.heap s.heap [] := va_S.rf
  have hl := lv_entry ([.ref (z 0), .int (nI j)]) (n := 3) (Nat.le_of_ble_eq_true rfl)
  rw [lg_entry_eq]
  generalize (lg_sl ([.ref (z 0), .int (nI j)]) ++ List.replicate (3 - (lg_sl ([.ref (z 0), .int (nI j)])).length) Slot.unset).toArray = ls at hl ⊢
  have hl : lv_has ls 3 [(0, .ref (z 0)), (1, .int (nI j))] := hl
  have hn31 : n < 2 ^ 31 := by omega
  refine lv_aload_n hx hb dX1_leaveBucket_0 rfl (lv_at hl 0 rfl) ?_
  refine va_get (D := (dC, dI)) (ci := 0) (v := .ref (z 2)) (C := RX1) (T := TX1) (N := 14) hx hb hts inlX1 hown hK hP 0 rfl rfl 4 (by decide) (hts _ km_28) (fun _ h9 => h9) rfl dX1_leaveBucket_1 ?_
  refine lv_iload_n hx hb dX1_leaveBucket_4 rfl (lv_at hl 1 rfl) ?_
  refine fx_ald hx hb hK hP 2 0 rfl rfl j rfl hj hn31 dX1_leaveBucket_5 ?_
  refine lv_istore_n (lv' := [(2, .int (B j)), (0, .ref (z 0)), (1, .int (nI j))]) hx hb dX1_leaveBucket_6 rfl hl (by decide) rfl (fun ls hl => ?_)
  refine lv_iload_n hx hb dX1_leaveBucket_7 rfl (lv_at hl 0 rfl) ?_
  refine lv_iconst (v := (-1)) hx hb dX1_leaveBucket_8 (by decide) ?_
  refine lv_icmp_eq (tgt := 29) hx hb dX1_leaveBucket_9 (by decide) (fun c_9 => ?_) (fun c_9 => ?_)
  · exact fx_vret hx hb hr hlocks hK hS dX1_leaveBucket_29 (fl, pr, pg, ky, K, B, M) (by simp only [fqleave]; rw [if_pos c_9]) hP hD
  · obtain ⟨b, hb32, hbe⟩ := hB.resolve_left c_9
    refine lv_aload_n hx hb dX1_leaveBucket_12 rfl (lv_at hl 1 rfl) ?_
    refine va_get (D := (dC, dI)) (ci := 0) (v := .ref (z 3)) (C := RX1) (T := TX1) (N := 14) hx hb hts inlX1 hown hK hP 0 rfl rfl 5 (by decide) (hts _ km_29) (fun _ h9 => h9) rfl dX1_leaveBucket_13 ?_
    refine lv_iload_n hx hb dX1_leaveBucket_16 rfl (lv_at hl 0 rfl) ?_
    refine lv_dup2_11 hx hb dX1_leaveBucket_17 rfl rfl ?_
    refine fx_ald hx hb hK hP 3 0 rfl rfl b hbe hb32 (by decide) dX1_leaveBucket_18 ?_
    refine lv_iconst (v := 1) hx hb dX1_leaveBucket_19 (by decide) ?_
    refine lv_isub hx hb dX1_leaveBucket_20 ?_
    refine fx_ast hx hb hK hP hD hS 3 0 rfl rfl b hbe hb32 (by decide) dX1_leaveBucket_21 (fun H locs hP hD hS => ?_)
    have hP : va_P (dC, dI) classes (wX z cI cA n ar gl fl pr pg ky ac K B (upd M b ((M b) - 1)) Ds Bf L ++ rest) H := hP
    have hD : va_D A (wX z cI cA n ar gl fl pr pg ky ac K B (upd M b ((M b) - 1)) Ds Bf L ++ rest) := hD
    refine lv_aload_n hx hb dX1_leaveBucket_22 rfl (lv_at hl 1 rfl) ?_
    refine va_get (D := (dC, dI)) (ci := 0) (v := .ref (z 2)) (C := RX1) (T := TX1) (N := 14) hx hb hts inlX1 hown hK hP 0 rfl rfl 4 (by decide) (hts _ km_28) (fun _ h9 => h9) rfl dX1_leaveBucket_23 ?_
    refine lv_iload_n hx hb dX1_leaveBucket_26 rfl (lv_at hl 2 rfl) ?_
    refine lv_iconst (v := (-1)) hx hb dX1_leaveBucket_27 (by decide) ?_
    refine fx_ast hx hb hK hP hD hS 2 0 rfl rfl j rfl hj hn31 dX1_leaveBucket_28 (fun H locs hP hD hS => ?_)
    have hP : va_P (dC, dI) classes (wX z cI cA n ar gl fl pr pg ky ac K (upd B j (-1)) (upd M b ((M b) - 1)) Ds Bf L ++ rest) H := hP
    have hD : va_D A (wX z cI cA n ar gl fl pr pg ky ac K (upd B j (-1)) (upd M b ((M b) - 1)) Ds Bf L ++ rest) := hD
    exact fx_vret hx hb hr hlocks hK hS dX1_leaveBucket_29 (fl, pr, pg, ky, K, upd B j (-1), upd M b ((M b) - 1)) (by simp only [fqleave]; rw [if_neg c_9, hbe, fqn_nI (by omega)]) hP hD
set_option maxHeartbeats 4000000 in
set_option maxRecDepth 100000 in
theorem sp_put (l : Launch) (dC : Nat → ClassId) (dI : Nat → Nat → Nat) (A : Nat → Prop) (cI cA cZ : ClassId) (rest : va_W) (z : Nat → Nat) (n : Nat) (hn : n ≤ 40) (ar gl : Int32) (fl pr pg ky ac : Int32) (K B M Ds Bf : Nat → Int32) (L : Nat → Option Nat) (j : Nat) (hj : j < n) (hB : B j = -1 ∨ ∃ b, b < 32 ∧ B j = nI b) (hk0 : ¬ K j < 0) (hfl : ¬ fl < 0) : Met l yX1_putIntoBucket (Cond.code yX1_putIntoBucket cX1_putIntoBucket 3 none :: wsL_law) ({ frames := 2, cells := 0, slots := 0, locals := 42 } : Room) (va_Pc [.ref (z 0), .int (nI j)] (fx_Pre (dC, dI) classes (fq_ty cI cA cZ) A (wX z cI cA n ar gl fl pr pg ky ac K B M Ds Bf L ++ rest))) (va_Qv (S := fqQ) (fun u => u = fqput (fl, pr, pg, ky, K, B, M) j) (fx_B (dC, dI) classes (fq_ty cI cA cZ) A (fun u : fqQ => wX z cI cA n ar gl u.1 u.2.1 u.2.2.1 u.2.2.2.1 ac u.2.2.2.2.1 u.2.2.2.2.2.1 u.2.2.2.2.2.2 Ds Bf L ++ rest)) A) 0 0 A := by
  refine Met.ofW (cc := cX1_putIntoBucket) (maxL := 3) (ret := none) (by decide) rfl ?_
  intro p e s m args below meth c s₁ B0 hml hv
  obtain ⟨rfl, hA, hP, hK, hD, hN⟩ := hv
  have hx := B0.exec
  have hb := B0.bytes
  have hr := B0.returns
  have hts0 := atoms_spec (ws := (Cond.code yX1_putIntoBucket cX1_putIntoBucket 3 none :: wsL_law)) B0.pre
  have hts := fun w (h : w ∈ wsL_law) => hts0 w (List.mem_cons_of_mem _ h)
  have hown : s.vm.findClass RX1 = some m.cls := findClass_of_methodNamed B0.named
  have hlocks := B0.notSynchronized
  have hF : CallFix p m c cX1_putIntoBucket 3 s ([.ref (z 0), .int (nI j)] : List Value).toArray wsL_law RX1 := ⟨hx, hb, hml, hown, hts⟩
  have hS : va_S A s.heap s.heap [] := va_S.rf
  have hl := lv_entry ([.ref (z 0), .int (nI j)]) (n := 3) (Nat.le_of_ble_eq_true rfl)
  rw [lg_entry_eq]
  generalize (lg_sl ([.ref (z 0), .int (nI j)]) ++ List.replicate (3 - (lg_sl ([.ref (z 0), .int (nI j)])).length) Slot.unset).toArray = ls at hl ⊢
  have hl : lv_has ls 3 [(0, .ref (z 0)), (1, .int (nI j))] := hl
  have hn31 : n < 2 ^ 31 := by omega
  refine lv_aload_n hx hb dX1_putIntoBucket_0 rfl (lv_at hl 0 rfl) ?_
  refine lv_iload_n hx hb dX1_putIntoBucket_1 rfl (lv_at hl 1 rfl) ?_
  refine fx_Vv (rest := []) (sp_leave l dC dI A cI cA cZ rest z n hn ar gl fl pr pg ky ac K B M Ds Bf L j hj hB) hF (cw_RX1_128 hts ⟨Nat.le_of_ble_eq_true rfl, Nat.le_of_ble_eq_true rfl⟩) hA hS hP hK hD hN 0 0 rfl rfl rfl hl.1 rfl (Nat.le_of_ble_eq_true rfl) dX1_putIntoBucket_2 ⟨Nat.le_of_ble_eq_true rfl, Nat.le_of_ble_eq_true rfl⟩ (fun u H locs h hP hD hS => ?_)
  obtain ⟨B1, M1, e1⟩ := fqleave_form fl pr pg ky K B M j
  subst h
  rw [e1] at hP hD
  have hP : va_P (dC, dI) classes (wX z cI cA n ar gl fl pr pg ky ac K B1 M1 Ds Bf L ++ rest) H := hP
  have hD : va_D A (wX z cI cA n ar gl fl pr pg ky ac K B1 M1 Ds Bf L ++ rest) := hD
  refine lv_aload_n hx hb dX1_putIntoBucket_5 rfl (lv_at hl 0 rfl) ?_
  refine lv_aload_n hx hb dX1_putIntoBucket_6 rfl (lv_at hl 0 rfl) ?_
  refine va_get (D := (dC, dI)) (ci := 0) (v := .ref (z 1)) (C := RX1) (T := TX1) (N := 14) hx hb hts inlX1 hown hK hP 0 rfl rfl 3 (by decide) (hts _ km_27) (fun _ h9 => h9) rfl dX1_putIntoBucket_7 ?_
  refine lv_iload_n hx hb dX1_putIntoBucket_10 rfl (lv_at hl 1 rfl) ?_
  refine fx_ald hx hb hK hP 1 0 rfl rfl j rfl hj hn31 dX1_putIntoBucket_11 ?_
  refine fx_Vs (rest := []) (sp_bucketFor l dC dI A cI cA cZ rest z n hn ar gl fl pr pg ky ac K B1 M1 Ds Bf L (K j) hk0 hfl) hF (cw_RX1_76 hts ⟨Nat.le_of_ble_eq_true rfl, Nat.le_of_ble_eq_true rfl⟩) hA hS hP hK hD hN 0 0 rfl rfl rfl hl.1 rfl (Nat.le_of_ble_eq_true rfl) dX1_putIntoBucket_12 ⟨Nat.le_of_ble_eq_true rfl, Nat.le_of_ble_eq_true rfl⟩ (fun r h => ?_)
  subst h
  refine lv_istore_n (lv' := [(2, .int (nI (fqk (K j) fl))), (0, .ref (z 0)), (1, .int (nI j))]) hx hb dX1_putIntoBucket_15 rfl hl (by decide) rfl (fun ls hl => ?_)
  refine lv_aload_n hx hb dX1_putIntoBucket_16 rfl (lv_at hl 1 rfl) ?_
  refine va_get (D := (dC, dI)) (ci := 0) (v := .ref (z 2)) (C := RX1) (T := TX1) (N := 14) hx hb hts inlX1 hown hK hP 0 rfl rfl 4 (by decide) (hts _ km_28) (fun _ h9 => h9) rfl dX1_putIntoBucket_17 ?_
  refine lv_iload_n hx hb dX1_putIntoBucket_20 rfl (lv_at hl 2 rfl) ?_
  refine lv_iload_n hx hb dX1_putIntoBucket_21 rfl (lv_at hl 0 rfl) ?_
  refine fx_ast hx hb hK hP hD hS 2 0 rfl rfl j rfl hj hn31 dX1_putIntoBucket_22 (fun H locs hP hD hS => ?_)
  have hP : va_P (dC, dI) classes (wX z cI cA n ar gl fl pr pg ky ac K (upd B1 j (nI (fqk (K j) fl))) M1 Ds Bf L ++ rest) H := hP
  have hD : va_D A (wX z cI cA n ar gl fl pr pg ky ac K (upd B1 j (nI (fqk (K j) fl))) M1 Ds Bf L ++ rest) := hD
  refine lv_aload_n hx hb dX1_putIntoBucket_23 rfl (lv_at hl 1 rfl) ?_
  refine va_get (D := (dC, dI)) (ci := 0) (v := .ref (z 3)) (C := RX1) (T := TX1) (N := 14) hx hb hts inlX1 hown hK hP 0 rfl rfl 5 (by decide) (hts _ km_29) (fun _ h9 => h9) rfl dX1_putIntoBucket_24 ?_
  refine lv_iload_n hx hb dX1_putIntoBucket_27 rfl (lv_at hl 0 rfl) ?_
  refine lv_dup2_11 hx hb dX1_putIntoBucket_28 rfl rfl ?_
  refine fx_ald hx hb hK hP 3 0 rfl rfl (fqk (K j) fl) rfl (fqk_lt _ _) (by decide) dX1_putIntoBucket_29 ?_
  refine lv_iconst (v := 1) hx hb dX1_putIntoBucket_30 (by decide) ?_
  refine lv_iadd hx hb dX1_putIntoBucket_31 ?_
  refine fx_ast hx hb hK hP hD hS 3 0 rfl rfl (fqk (K j) fl) rfl (fqk_lt _ _) (by decide) dX1_putIntoBucket_32 (fun H locs hP hD hS => ?_)
  have hP : va_P (dC, dI) classes (wX z cI cA n ar gl fl pr pg ky ac K (upd B1 j (nI (fqk (K j) fl))) (upd M1 (fqk (K j) fl) ((M1 (fqk (K j) fl)) + 1)) Ds Bf L ++ rest) H := hP
  have hD : va_D A (wX z cI cA n ar gl fl pr pg ky ac K (upd B1 j (nI (fqk (K j) fl))) (upd M1 (fqk (K j) fl) ((M1 (fqk (K j) fl)) + 1)) Ds Bf L ++ rest) := hD
  refine lv_aload_n hx hb dX1_putIntoBucket_33 rfl (lv_at hl 1 rfl) ?_
  refine lv_dup hx hb dX1_putIntoBucket_34 rfl ?_
  refine va_get (D := (dC, dI)) (ci := 0) (v := .int pg) (C := RX1) (T := TX1) (N := 14) hx hb hts inlX1 hown hK hP 0 rfl rfl 8 (by decide) (hts _ km_78) (fun _ h9 => h9) rfl dX1_putIntoBucket_35 ?_
  refine lv_iconst (v := 1) hx hb dX1_putIntoBucket_38 (by decide) ?_
  refine lv_iadd hx hb dX1_putIntoBucket_39 ?_
  refine va_put (D := (dC, dI)) (ci := 0) (v := .int (pg + 1)) (ty := .int) (C := RX1) (T := TX1) (N := 14) hx hb hts inlX1 tyX1 tyX1_ok nmX1 hown hK hP hD hS 0 rfl rfl 8 (by decide) (hts _ km_78) (fun _ h9 => h9) rfl (by decide +kernel) rfl rfl (Nat.le_of_ble_eq_true rfl) dX1_putIntoBucket_40 (fun H locs hP hD hS => ?_)
  have hP : va_P (dC, dI) classes (wX z cI cA n ar gl fl pr (pg + 1) ky ac K (upd B1 j (nI (fqk (K j) fl))) (upd M1 (fqk (K j) fl) ((M1 (fqk (K j) fl)) + 1)) Ds Bf L ++ rest) H := hP
  have hD : va_D A (wX z cI cA n ar gl fl pr (pg + 1) ky ac K (upd B1 j (nI (fqk (K j) fl))) (upd M1 (fqk (K j) fl) ((M1 (fqk (K j) fl)) + 1)) Ds Bf L ++ rest) := hD
  exact fx_vret hx hb hr hlocks hK hS dX1_putIntoBucket_43 (fl, pr, pg + 1, ky, K, upd B1 j (nI (fqk (K j) fl)), upd M1 (fqk (K j) fl) ((M1 (fqk (K j) fl)) + 1)) (by unfold fqput; rw [e1]) hP hD
set_option maxHeartbeats 4000000 in
set_option maxRecDepth 100000 in
theorem sp_take (l : Launch) (dC : Nat → ClassId) (dI : Nat → Nat → Nat) (A : Nat → Prop) (cI cA cZ : ClassId) (rest : va_W) (z : Nat → Nat) (n : Nat) (hn : n ≤ 40) (ar gl : Int32) (fl pr pg ky ac : Int32) (K B M Ds Bf : Nat → Int32) (L : Nat → Option Nat) (j : Nat) (hj : j < n) (hB : B j = -1 ∨ ∃ b, b < 32 ∧ B j = nI b) : Met l yX1_takeOut (Cond.code yX1_takeOut cX1_takeOut 2 none :: wsL_law) ({ frames := 1, cells := 0, slots := 0, locals := 22 } : Room) (va_Pc [.ref (z 0), .int (nI j)] (fx_Pre (dC, dI) classes (fq_ty cI cA cZ) A (wX z cI cA n ar gl fl pr pg ky ac K B M Ds Bf L ++ rest))) (va_Qv (S := fqQ) (fun u => u = fqtake (fl, pr, pg, ky, K, B, M) j) (fx_B (dC, dI) classes (fq_ty cI cA cZ) A (fun u : fqQ => wX z cI cA n ar gl u.1 u.2.1 u.2.2.1 u.2.2.2.1 ac u.2.2.2.2.1 u.2.2.2.2.2.1 u.2.2.2.2.2.2 Ds Bf L ++ rest)) A) 0 0 A := by
  refine Met.ofW (cc := cX1_takeOut) (maxL := 2) (ret := none) (by decide) rfl ?_
  intro p e s m args below meth c s₁ B0 hml hv
  obtain ⟨rfl, hA, hP, hK, hD, hN⟩ := hv
  have hx := B0.exec
  have hb := B0.bytes
  have hr := B0.returns
  have hts0 := atoms_spec (ws := (Cond.code yX1_takeOut cX1_takeOut 2 none :: wsL_law)) B0.pre
  have hts := fun w (h : w ∈ wsL_law) => hts0 w (List.mem_cons_of_mem _ h)
  have hown : s.vm.findClass RX1 = some m.cls := findClass_of_methodNamed B0.named
  have hlocks := B0.notSynchronized
  have hF : CallFix p m c cX1_takeOut 2 s ([.ref (z 0), .int (nI j)] : List Value).toArray wsL_law RX1 := ⟨hx, hb, hml, hown, hts⟩
  have hS : va_S A s.heap s.heap [] := va_S.rf
  have hl := lv_entry ([.ref (z 0), .int (nI j)]) (n := 2) (Nat.le_of_ble_eq_true rfl)
  rw [lg_entry_eq]
  generalize (lg_sl ([.ref (z 0), .int (nI j)]) ++ List.replicate (2 - (lg_sl ([.ref (z 0), .int (nI j)])).length) Slot.unset).toArray = ls at hl ⊢
  have hl : lv_has ls 2 [(0, .ref (z 0)), (1, .int (nI j))] := hl
  have hn31 : n < 2 ^ 31 := by omega
  refine lv_aload_n hx hb dX1_takeOut_0 rfl (lv_at hl 0 rfl) ?_
  refine lv_iload_n hx hb dX1_takeOut_1 rfl (lv_at hl 1 rfl) ?_
  refine fx_Vv (rest := []) (sp_leave l dC dI A cI cA cZ rest z n hn ar gl fl pr pg ky ac K B M Ds Bf L j hj hB) hF (cw_RX1_128 hts ⟨Nat.le_of_ble_eq_true rfl, Nat.le_of_ble_eq_true rfl⟩) hA hS hP hK hD hN 0 0 rfl rfl rfl hl.1 rfl (Nat.le_of_ble_eq_true rfl) dX1_takeOut_2 ⟨Nat.le_of_ble_eq_true rfl, Nat.le_of_ble_eq_true rfl⟩ (fun u H locs h hP hD hS => ?_)
  obtain ⟨B1, M1, e1⟩ := fqleave_form fl pr pg ky K B M j
  subst h
  rw [e1] at hP hD
  have hP : va_P (dC, dI) classes (wX z cI cA n ar gl fl pr pg ky ac K B1 M1 Ds Bf L ++ rest) H := hP
  have hD : va_D A (wX z cI cA n ar gl fl pr pg ky ac K B1 M1 Ds Bf L ++ rest) := hD
  refine lv_aload_n hx hb dX1_takeOut_5 rfl (lv_at hl 0 rfl) ?_
  refine lv_dup hx hb dX1_takeOut_6 rfl ?_
  refine va_get (D := (dC, dI)) (ci := 0) (v := .int pr) (C := RX1) (T := TX1) (N := 14) hx hb hts inlX1 hown hK hP 0 rfl rfl 7 (by decide) (hts _ km_64) (fun _ h9 => h9) rfl dX1_takeOut_7 ?_
  refine lv_iconst (v := 1) hx hb dX1_takeOut_10 (by decide) ?_
  refine lv_isub hx hb dX1_takeOut_11 ?_
  refine va_put (D := (dC, dI)) (ci := 0) (v := .int (pr - 1)) (ty := .int) (C := RX1) (T := TX1) (N := 14) hx hb hts inlX1 tyX1 tyX1_ok nmX1 hown hK hP hD hS 0 rfl rfl 7 (by decide) (hts _ km_64) (fun _ h9 => h9) rfl (by decide +kernel) rfl rfl (Nat.le_of_ble_eq_true rfl) dX1_takeOut_12 (fun H locs hP hD hS => ?_)
  have hP : va_P (dC, dI) classes (wX z cI cA n ar gl fl (pr - 1) pg ky ac K B1 M1 Ds Bf L ++ rest) H := hP
  have hD : va_D A (wX z cI cA n ar gl fl (pr - 1) pg ky ac K B1 M1 Ds Bf L ++ rest) := hD
  exact fx_vret hx hb hr hlocks hK hS dX1_takeOut_15 (fl, pr - 1, pg, ky, K, B1, M1) (by unfold fqtake; rw [e1]) hP hD
set_option maxHeartbeats 4000000 in
set_option maxRecDepth 100000 in
theorem sp_low (l : Launch) (dC : Nat → ClassId) (dI : Nat → Nat → Nat) (A : Nat → Prop) (cI cA cZ : ClassId) (rest : va_W) (z : Nat → Nat) (n : Nat) (hn : n ≤ 40) (ar gl : Int32) (fl pr pg ky ac : Int32) (K B M Ds Bf : Nat → Int32) (L : Nat → Option Nat)  : Met l yX1_lowestBucket (Cond.code yX1_lowestBucket cX1_lowestBucket 2 (some .int) :: wsL_law) ({ frames := 0, cells := 0, slots := 0, locals := 0 } : Room) (va_Pc [.ref (z 0)] (fx_Pre (dC, dI) classes (fq_ty cI cA cZ) A (wX z cI cA n ar gl fl pr pg ky ac K B M Ds Bf L ++ rest))) (vp_Si (fun r => r = fqopt (fqlow M 32 0))) 0 0 (fun _ => False) := by
  refine Met.ofW (cc := cX1_lowestBucket) (maxL := 2) (ret := (some .int)) (by decide) rfl ?_
  intro p e s m args below meth c s₁ B0 hml hv
  obtain ⟨rfl, hA, hP, hK, hD, hN⟩ := hv
  have hx := B0.exec
  have hb := B0.bytes
  have hr := B0.returns
  have hts0 := atoms_spec (ws := (Cond.code yX1_lowestBucket cX1_lowestBucket 2 (some .int) :: wsL_law)) B0.pre
  have hts := fun w (h : w ∈ wsL_law) => hts0 w (List.mem_cons_of_mem _ h)
  have hown : s.vm.findClass RX1 = some m.cls := findClass_of_methodNamed B0.named
  have hlocks := B0.notSynchronized
  have hF : CallFix p m c cX1_lowestBucket 2 s ([.ref (z 0)] : List Value).toArray wsL_law RX1 := ⟨hx, hb, hml, hown, hts⟩
  have hS : va_S A s.heap s.heap [] := va_S.rf
  have hl := lv_entry ([.ref (z 0)]) (n := 2) (Nat.le_of_ble_eq_true rfl)
  rw [lg_entry_eq]
  generalize (lg_sl ([.ref (z 0)]) ++ List.replicate (2 - (lg_sl ([.ref (z 0)])).length) Slot.unset).toArray = ls at hl ⊢
  have hl : lv_has ls 2 [(0, .ref (z 0))] := hl
  have hn31 : n < 2 ^ 31 := by omega
  have K : ∀ (d i : Nat) (ls : Array Slot), d + i = 32 → (fqlow M d i = fqlow M 32 0) → lv_has ls 2 [(0, .ref (z 0)), (1, .int (nI i))] → W p l e (headSpec (Cond.code yX1_lowestBucket cX1_lowestBucket 2 (some .int) :: wsL_law) ({ frames := 0, cells := 0, slots := 0, locals := 0 } : Room)).room s m ([.ref (z 0)] : List Value).toArray below meth c s.heap [] 0 0 (MQ below (vp_Si (fun r => r = fqopt (fqlow M 32 0))) ([.ref (z 0)] : List Value).toArray s 0 0 (fun _ => False)) (F0 m 2 ls []) := by
    intro d
    induction d with
    | zero =>
      intro i  ls hdi hq hl
      have e0 : i = 32 := by omega
      subst e0
      have hl : lv_has ls 2 [(0, .ref (z 0)), (1, .int 32)] := hl
      refine lv_iload_n hx hb dX1_lowestBucket_2 rfl (lv_at hl 1 rfl) ?_
      refine lv_bipush (v := 32) hx hb dX1_lowestBucket_3 (by decide) ?_
      refine lv_icmp_ge (tgt := 25) hx hb dX1_lowestBucket_5 (by decide) (fun _ => ?_) (fun h9 => absurd h9 (by decide))
      refine lv_iconst (v := (-1)) hx hb dX1_lowestBucket_25 (by decide) ?_
      exact fx_sret hx hb hr hlocks dX1_lowestBucket_26 (by rw [← hq]; rfl)
    | succ d ih =>
      intro i  ls hdi hq hl
      have hi : i < 32 := by omega
      have hq : (if 0 < M i then some i else fqlow M d (i + 1)) = fqlow M 32 0 := hq
      refine lv_iload_n hx hb dX1_lowestBucket_2 rfl (lv_at hl 1 rfl) ?_
      refine lv_bipush (v := 32) hx hb dX1_lowestBucket_3 (by decide) ?_
      refine lv_icmp_ge (tgt := 25) hx hb dX1_lowestBucket_5 (by decide) (fun c_5 => ?_) (fun c_5 => ?_)
      · exact absurd (show nI 32 ≤ nI i from c_5) (nI_ge hi (by decide))
      · refine lv_aload_n hx hb dX1_lowestBucket_8 rfl (lv_at hl 0 rfl) ?_
        refine va_get (D := (dC, dI)) (ci := 0) (v := .ref (z 3)) (C := RX1) (T := TX1) (N := 14) hx hb hts inlX1 hown hK hP 0 rfl rfl 5 (by decide) (hts _ km_29) (fun _ h9 => h9) rfl dX1_lowestBucket_9 ?_
        refine lv_iload_n hx hb dX1_lowestBucket_12 rfl (lv_at hl 1 rfl) ?_
        refine fx_ald hx hb hK hP 3 0 rfl rfl i rfl hi (by decide) dX1_lowestBucket_13 ?_
        refine lv_if_le (tgt := 19) hx hb dX1_lowestBucket_14 (by decide) (fun c_14 => ?_) (fun c_14 => ?_)
        · rw [if_neg (Int32.not_lt.mpr c_14)] at hq
          refine lv_iinc (v := nI (i + 1)) (lv' := [(1, .int (nI (i + 1))), (0, .ref (z 0))]) hx hb dX1_lowestBucket_19 hl (k := 1) rfl (nI_1 i) (by decide) rfl (fun ls hl => ?_)
          refine lv_goto (tgt := 2) hx hb dX1_lowestBucket_22 (by decide) ?_
          exact ih (i + 1) ls (by omega) hq (lv_sub hl [1, 0] rfl)
        · rw [if_pos (Int32.not_le.mp c_14)] at hq
          refine lv_iload_n hx hb dX1_lowestBucket_17 rfl (lv_at hl 1 rfl) ?_
          exact fx_sret hx hb hr hlocks dX1_lowestBucket_18 (by rw [← hq]; rfl)
  refine lv_iconst (v := 0) hx hb dX1_lowestBucket_0 (by decide) ?_
  refine lv_istore_n (lv' := [(1, .int 0), (0, .ref (z 0))]) hx hb dX1_lowestBucket_1 rfl hl (by decide) rfl (fun ls hl => ?_)
  exact K 32 0 ls rfl rfl (lv_sub hl [1, 0] rfl)
set_option maxHeartbeats 4000000 in
set_option maxRecDepth 100000 in
theorem sp_best (l : Launch) (dC : Nat → ClassId) (dI : Nat → Nat → Nat) (A : Nat → Prop) (cI cA cZ : ClassId) (rest : va_W) (z : Nat → Nat) (n : Nat) (hn : n ≤ 40) (ar gl : Int32) (fl pr pg ky ac : Int32) (K B M Ds Bf : Nat → Int32) (L : Nat → Option Nat) (b : Int32)  : Met l yX1_leastItemIn (Cond.code yX1_leastItemIn cX1_leastItemIn 4 (some .int) :: wsL_law) ({ frames := 2, cells := 0, slots := 0, locals := 42 } : Room) (va_Pc [.ref (z 0), .int b] (fx_Pre (dC, dI) classes (fq_ty cI cA cZ) A (wX z cI cA n ar gl fl pr pg ky ac K B M Ds Bf L ++ rest))) (vp_Si (fun r => r = fqopt (fqbest K B b n 0 none))) 0 0 (fun _ => False) := by
  refine Met.ofW (cc := cX1_leastItemIn) (maxL := 4) (ret := (some .int)) (by decide) rfl ?_
  intro p e s m args below meth c s₁ B0 hml hv
  obtain ⟨rfl, hA, hP, hK, hD, hN⟩ := hv
  have hx := B0.exec
  have hb := B0.bytes
  have hr := B0.returns
  have hts0 := atoms_spec (ws := (Cond.code yX1_leastItemIn cX1_leastItemIn 4 (some .int) :: wsL_law)) B0.pre
  have hts := fun w (h : w ∈ wsL_law) => hts0 w (List.mem_cons_of_mem _ h)
  have hown : s.vm.findClass RX1 = some m.cls := findClass_of_methodNamed B0.named
  have hlocks := B0.notSynchronized
  have hF : CallFix p m c cX1_leastItemIn 4 s ([.ref (z 0), .int b] : List Value).toArray wsL_law RX1 := ⟨hx, hb, hml, hown, hts⟩
  have hS : va_S A s.heap s.heap [] := va_S.rf
  have hl := lv_entry ([.ref (z 0), .int b]) (n := 4) (Nat.le_of_ble_eq_true rfl)
  rw [lg_entry_eq]
  generalize (lg_sl ([.ref (z 0), .int b]) ++ List.replicate (4 - (lg_sl ([.ref (z 0), .int b])).length) Slot.unset).toArray = ls at hl ⊢
  have hl : lv_has ls 4 [(0, .ref (z 0)), (1, .int b)] := hl
  have hn31 : n < 2 ^ 31 := by omega
  have K : ∀ (d i : Nat) (a : Option Nat) (ls : Array Slot), d + i = n → (fqbest K B b d i a = fqbest K B b n 0 none) → (∀ j, a = some j → j < n) → lv_has ls 4 [(0, .ref (z 0)), (1, .int b), (2, .int (fqopt a)), (3, .int (nI i))] → W p l e (headSpec (Cond.code yX1_leastItemIn cX1_leastItemIn 4 (some .int) :: wsL_law) ({ frames := 2, cells := 0, slots := 0, locals := 42 } : Room)).room s m ([.ref (z 0), .int b] : List Value).toArray below meth c s.heap [] 0 0 (MQ below (vp_Si (fun r => r = fqopt (fqbest K B b n 0 none))) ([.ref (z 0), .int b] : List Value).toArray s 0 0 (fun _ => False)) (F0 m 4 ls []) := by
    intro d
    induction d with
    | zero =>
      intro i a ls hdi hq ha hl
      have e0 : i = n := by omega
      subst e0
      refine lv_iload_n hx hb dX1_leastItemIn_4 rfl (lv_at hl 3 rfl) ?_
      refine lv_aload_n hx hb dX1_leastItemIn_5 rfl (lv_at hl 0 rfl) ?_
      refine va_get (D := (dC, dI)) (ci := 0) (v := .int (nI i)) (C := RX1) (T := TX1) (N := 14) hx hb hts inlX1 hown hK hP 0 rfl rfl 0 (by decide) (hts _ km_23) (fun _ h9 => h9) rfl dX1_leastItemIn_6 ?_
      refine lv_icmp_ge (tgt := 58) hx hb dX1_leastItemIn_9 (by decide) (fun c_9 => ?_) (fun c_9 => ?_)
      · refine lv_iload_n hx hb dX1_leastItemIn_58 rfl (lv_at hl 2 rfl) ?_
        exact fx_sret hx hb hr hlocks dX1_leastItemIn_59 (by rw [← hq]; rfl)
      · exact absurd (Int32.le_refl _) c_9
    | succ d ih =>
      intro i a ls hdi hq ha hl
      have hi : i < n := by omega
      cases a with
      | none =>
        have hl : lv_has ls 4 [(0, .ref (z 0)), (1, .int b), (2, .int (-1)), (3, .int (nI i))] := hl
        refine lv_iload_n hx hb dX1_leastItemIn_4 rfl (lv_at hl 3 rfl) ?_
        refine lv_aload_n hx hb dX1_leastItemIn_5 rfl (lv_at hl 0 rfl) ?_
        refine va_get (D := (dC, dI)) (ci := 0) (v := .int (nI n)) (C := RX1) (T := TX1) (N := 14) hx hb hts inlX1 hown hK hP 0 rfl rfl 0 (by decide) (hts _ km_23) (fun _ h9 => h9) rfl dX1_leastItemIn_6 ?_
        refine lv_icmp_ge (tgt := 58) hx hb dX1_leastItemIn_9 (by decide) (fun c_9 => ?_) (fun c_9 => ?_)
        · exact absurd c_9 (nI_ge hi hn31)
        · refine lv_aload_n hx hb dX1_leastItemIn_12 rfl (lv_at hl 0 rfl) ?_
          refine lv_iload_n hx hb dX1_leastItemIn_13 rfl (lv_at hl 3 rfl) ?_
          refine fx_Vs (rest := []) (sp_isThere l dC dI A cI cA cZ rest z n hn ar gl fl pr pg ky ac K B M Ds Bf L (nI i)) hF (cw_RX1_60 hts ⟨Nat.le_of_ble_eq_true rfl, Nat.le_of_ble_eq_true rfl⟩) hA hS hP hK hD hN 0 0 rfl rfl rfl hl.1 rfl (Nat.le_of_ble_eq_true rfl) dX1_leastItemIn_14 ⟨Nat.le_of_ble_eq_true rfl, Nat.le_of_ble_eq_true rfl⟩ (fun r h => ?_)
          rcases h with ⟨rfl, ⟨j9, hj9, e9, h9⟩⟩ | ⟨rfl, h9⟩
          · have e8 := (nI_eq (by omega) (by omega)).mp e9
            subst e8
            refine lv_if_eq (tgt := 52) hx hb dX1_leastItemIn_17 (by decide) (fun h9 => absurd h9 (by decide)) (fun _ => ?_)
            refine lv_aload_n hx hb dX1_leastItemIn_20 rfl (lv_at hl 0 rfl) ?_
            refine va_get (D := (dC, dI)) (ci := 0) (v := .ref (z 2)) (C := RX1) (T := TX1) (N := 14) hx hb hts inlX1 hown hK hP 0 rfl rfl 4 (by decide) (hts _ km_28) (fun _ h9 => h9) rfl dX1_leastItemIn_21 ?_
            refine lv_iload_n hx hb dX1_leastItemIn_24 rfl (lv_at hl 3 rfl) ?_
            refine fx_ald hx hb hK hP 2 0 rfl rfl i rfl hi hn31 dX1_leastItemIn_25 ?_
            refine lv_iload_n hx hb dX1_leastItemIn_26 rfl (lv_at hl 1 rfl) ?_
            refine lv_icmp_ne (tgt := 52) hx hb dX1_leastItemIn_27 (by decide) (fun c_27 => ?_) (fun c_27 => ?_)
            · refine lv_iinc (v := nI (i + 1)) (lv' := [(3, .int (nI (i + 1))), (0, .ref (z 0)), (1, .int b), (2, .int (-1))]) hx hb dX1_leastItemIn_52 hl (k := 3) rfl (nI_1 i) (by decide) rfl (fun ls hl => ?_)
              refine lv_goto (tgt := 4) hx hb dX1_leastItemIn_55 (by decide) ?_
              exact ih (i + 1) none ls (by omega) (by rw [← hq, fqbest_none, if_neg (fun h => c_27 h.2)]) ha (lv_sub hl [1, 2, 3, 0] rfl)
            · refine lv_iload_n hx hb dX1_leastItemIn_30 rfl (lv_at hl 2 rfl) ?_
              refine lv_iconst (v := (-1)) hx hb dX1_leastItemIn_31 (by decide) ?_
              refine lv_icmp_eq (tgt := 50) hx hb dX1_leastItemIn_32 (by decide) (fun _ => ?_) (fun h9 => absurd h9 (by decide))
              refine lv_iload_n hx hb dX1_leastItemIn_50 rfl (lv_at hl 3 rfl) ?_
              refine lv_istore_n (lv' := [(2, .int (nI i)), (0, .ref (z 0)), (1, .int b), (3, .int (nI i))]) hx hb dX1_leastItemIn_51 rfl hl (by decide) rfl (fun ls hl => ?_)
              refine lv_iinc (v := nI (i + 1)) (lv' := [(3, .int (nI (i + 1))), (2, .int (nI i)), (0, .ref (z 0)), (1, .int b)]) hx hb dX1_leastItemIn_52 hl (k := 3) rfl (nI_1 i) (by decide) rfl (fun ls hl => ?_)
              refine lv_goto (tgt := 4) hx hb dX1_leastItemIn_55 (by decide) ?_
              exact ih (i + 1) (some i) ls (by omega) (by rw [← hq, fqbest_none, if_pos ⟨h9, c_27⟩]) (fun j h => by cases h; exact hi) (lv_sub hl [2, 3, 1, 0] rfl)
          · have h8 := h9 i hi rfl
            refine lv_if_eq (tgt := 52) hx hb dX1_leastItemIn_17 (by decide) (fun _ => ?_) (fun h9 => absurd h9 (by decide))
            refine lv_iinc (v := nI (i + 1)) (lv' := [(3, .int (nI (i + 1))), (0, .ref (z 0)), (1, .int b), (2, .int (-1))]) hx hb dX1_leastItemIn_52 hl (k := 3) rfl (nI_1 i) (by decide) rfl (fun ls hl => ?_)
            refine lv_goto (tgt := 4) hx hb dX1_leastItemIn_55 (by decide) ?_
            exact ih (i + 1) none ls (by omega) (by rw [← hq, fqbest_none, if_neg (fun h => h.1 h8)]) ha (lv_sub hl [1, 2, 3, 0] rfl)
      | some jb =>
        have hl : lv_has ls 4 [(0, .ref (z 0)), (1, .int b), (2, .int (nI jb)), (3, .int (nI i))] := hl
        have hjb := ha jb rfl
        refine lv_iload_n hx hb dX1_leastItemIn_4 rfl (lv_at hl 3 rfl) ?_
        refine lv_aload_n hx hb dX1_leastItemIn_5 rfl (lv_at hl 0 rfl) ?_
        refine va_get (D := (dC, dI)) (ci := 0) (v := .int (nI n)) (C := RX1) (T := TX1) (N := 14) hx hb hts inlX1 hown hK hP 0 rfl rfl 0 (by decide) (hts _ km_23) (fun _ h9 => h9) rfl dX1_leastItemIn_6 ?_
        refine lv_icmp_ge (tgt := 58) hx hb dX1_leastItemIn_9 (by decide) (fun c_9 => ?_) (fun c_9 => ?_)
        · exact absurd c_9 (nI_ge hi hn31)
        · refine lv_aload_n hx hb dX1_leastItemIn_12 rfl (lv_at hl 0 rfl) ?_
          refine lv_iload_n hx hb dX1_leastItemIn_13 rfl (lv_at hl 3 rfl) ?_
          refine fx_Vs (rest := []) (sp_isThere l dC dI A cI cA cZ rest z n hn ar gl fl pr pg ky ac K B M Ds Bf L (nI i)) hF (cw_RX1_60 hts ⟨Nat.le_of_ble_eq_true rfl, Nat.le_of_ble_eq_true rfl⟩) hA hS hP hK hD hN 0 0 rfl rfl rfl hl.1 rfl (Nat.le_of_ble_eq_true rfl) dX1_leastItemIn_14 ⟨Nat.le_of_ble_eq_true rfl, Nat.le_of_ble_eq_true rfl⟩ (fun r h => ?_)
          rcases h with ⟨rfl, ⟨j9, hj9, e9, h9⟩⟩ | ⟨rfl, h9⟩
          · have e8 := (nI_eq (by omega) (by omega)).mp e9
            subst e8
            refine lv_if_eq (tgt := 52) hx hb dX1_leastItemIn_17 (by decide) (fun h9 => absurd h9 (by decide)) (fun _ => ?_)
            refine lv_aload_n hx hb dX1_leastItemIn_20 rfl (lv_at hl 0 rfl) ?_
            refine va_get (D := (dC, dI)) (ci := 0) (v := .ref (z 2)) (C := RX1) (T := TX1) (N := 14) hx hb hts inlX1 hown hK hP 0 rfl rfl 4 (by decide) (hts _ km_28) (fun _ h9 => h9) rfl dX1_leastItemIn_21 ?_
            refine lv_iload_n hx hb dX1_leastItemIn_24 rfl (lv_at hl 3 rfl) ?_
            refine fx_ald hx hb hK hP 2 0 rfl rfl i rfl hi hn31 dX1_leastItemIn_25 ?_
            refine lv_iload_n hx hb dX1_leastItemIn_26 rfl (lv_at hl 1 rfl) ?_
            refine lv_icmp_ne (tgt := 52) hx hb dX1_leastItemIn_27 (by decide) (fun c_27 => ?_) (fun c_27 => ?_)
            · refine lv_iinc (v := nI (i + 1)) (lv' := [(3, .int (nI (i + 1))), (0, .ref (z 0)), (1, .int b), (2, .int (nI jb))]) hx hb dX1_leastItemIn_52 hl (k := 3) rfl (nI_1 i) (by decide) rfl (fun ls hl => ?_)
              refine lv_goto (tgt := 4) hx hb dX1_leastItemIn_55 (by decide) ?_
              exact ih (i + 1) (some jb) ls (by omega) (by rw [← hq, fqbest_some, if_neg (fun h => c_27 h.2.1)]) ha (lv_sub hl [1, 2, 3, 0] rfl)
            · refine lv_iload_n hx hb dX1_leastItemIn_30 rfl (lv_at hl 2 rfl) ?_
              refine lv_iconst (v := (-1)) hx hb dX1_leastItemIn_31 (by decide) ?_
              refine lv_icmp_eq (tgt := 50) hx hb dX1_leastItemIn_32 (by decide) (fun c_32 => ?_) (fun c_32 => ?_)
              · exact absurd c_32 (fq_nm1 (by omega))
              · refine lv_aload_n hx hb dX1_leastItemIn_35 rfl (lv_at hl 0 rfl) ?_
                refine va_get (D := (dC, dI)) (ci := 0) (v := .ref (z 1)) (C := RX1) (T := TX1) (N := 14) hx hb hts inlX1 hown hK hP 0 rfl rfl 3 (by decide) (hts _ km_27) (fun _ h9 => h9) rfl dX1_leastItemIn_36 ?_
                refine lv_iload_n hx hb dX1_leastItemIn_39 rfl (lv_at hl 3 rfl) ?_
                refine fx_ald hx hb hK hP 1 0 rfl rfl i rfl hi hn31 dX1_leastItemIn_40 ?_
                refine lv_aload_n hx hb dX1_leastItemIn_41 rfl (lv_at hl 0 rfl) ?_
                refine va_get (D := (dC, dI)) (ci := 0) (v := .ref (z 1)) (C := RX1) (T := TX1) (N := 14) hx hb hts inlX1 hown hK hP 0 rfl rfl 3 (by decide) (hts _ km_27) (fun _ h9 => h9) rfl dX1_leastItemIn_42 ?_
                refine lv_iload_n hx hb dX1_leastItemIn_45 rfl (lv_at hl 2 rfl) ?_
                refine fx_ald hx hb hK hP 1 0 rfl rfl jb rfl hjb hn31 dX1_leastItemIn_46 ?_
                refine lv_icmp_ge (tgt := 52) hx hb dX1_leastItemIn_47 (by decide) (fun c_47 => ?_) (fun c_47 => ?_)
                · refine lv_iinc (v := nI (i + 1)) (lv' := [(3, .int (nI (i + 1))), (0, .ref (z 0)), (1, .int b), (2, .int (nI jb))]) hx hb dX1_leastItemIn_52 hl (k := 3) rfl (nI_1 i) (by decide) rfl (fun ls hl => ?_)
                  refine lv_goto (tgt := 4) hx hb dX1_leastItemIn_55 (by decide) ?_
                  exact ih (i + 1) (some jb) ls (by omega) (by rw [← hq, fqbest_some, if_neg (fun h => absurd h.2.2 (Int32.not_lt.mpr c_47))]) ha (lv_sub hl [1, 2, 3, 0] rfl)
                · have c_47 := Int32.not_le.mp c_47
                  refine lv_iload_n hx hb dX1_leastItemIn_50 rfl (lv_at hl 3 rfl) ?_
                  refine lv_istore_n (lv' := [(2, .int (nI i)), (0, .ref (z 0)), (1, .int b), (3, .int (nI i))]) hx hb dX1_leastItemIn_51 rfl hl (by decide) rfl (fun ls hl => ?_)
                  refine lv_iinc (v := nI (i + 1)) (lv' := [(3, .int (nI (i + 1))), (2, .int (nI i)), (0, .ref (z 0)), (1, .int b)]) hx hb dX1_leastItemIn_52 hl (k := 3) rfl (nI_1 i) (by decide) rfl (fun ls hl => ?_)
                  refine lv_goto (tgt := 4) hx hb dX1_leastItemIn_55 (by decide) ?_
                  exact ih (i + 1) (some i) ls (by omega) (by rw [← hq, fqbest_some, if_pos ⟨h9, c_27, c_47⟩]) (fun j h => by cases h; exact hi) (lv_sub hl [2, 3, 1, 0] rfl)
          · have h8 := h9 i hi rfl
            refine lv_if_eq (tgt := 52) hx hb dX1_leastItemIn_17 (by decide) (fun _ => ?_) (fun h9 => absurd h9 (by decide))
            refine lv_iinc (v := nI (i + 1)) (lv' := [(3, .int (nI (i + 1))), (0, .ref (z 0)), (1, .int b), (2, .int (nI jb))]) hx hb dX1_leastItemIn_52 hl (k := 3) rfl (nI_1 i) (by decide) rfl (fun ls hl => ?_)
            refine lv_goto (tgt := 4) hx hb dX1_leastItemIn_55 (by decide) ?_
            exact ih (i + 1) (some jb) ls (by omega) (by rw [← hq, fqbest_some, if_neg (fun h => h.1 h8)]) ha (lv_sub hl [1, 2, 3, 0] rfl)
  refine lv_iconst (v := (-1)) hx hb dX1_leastItemIn_0 (by decide) ?_
  refine lv_istore_n (lv' := [(2, .int (-1)), (0, .ref (z 0)), (1, .int b)]) hx hb dX1_leastItemIn_1 rfl hl (by decide) rfl (fun ls hl => ?_)
  refine lv_iconst (v := 0) hx hb dX1_leastItemIn_2 (by decide) ?_
  refine lv_istore_n (lv' := [(3, .int 0), (2, .int (-1)), (0, .ref (z 0)), (1, .int b)]) hx hb dX1_leastItemIn_3 rfl hl (by decide) rfl (fun ls hl => ?_)
  exact K n 0 none ls rfl rfl (fun _ h => by cases h) (lv_sub hl [2, 3, 1, 0] rfl)
end
section
theorem cw_RX1_72 {R : Room} {s : State} {args : Array Value} {rm : Room} (hts : ∀ w ∈ wsL_law, w.before args s = true) (hR : rm.frames + 1 ≤ R.frames ∧ 8 + (3 + 11) + rm.locals ≤ R.locals) : CallW R s args RX1 RX1 72 yX1_putIntoBucket cX1_putIntoBucket 3 none (Cond.code yX1_putIntoBucket cX1_putIntoBucket 3 none :: wsL_law) rm rm.cells rm.slots 1 := cwV 1 hts (km_app (km_four km_74 km_75 km_76 km_2) (km_in km_77)) rfl rfl rfl (by decide +kernel) hR
theorem cw_RX1_80 {R : Room} {s : State} {args : Array Value} {rm : Room} (hts : ∀ w ∈ wsL_law, w.before args s = true) (hR : rm.frames + 1 ≤ R.frames ∧ 8 + (2 + 11) + rm.locals ≤ R.locals) : CallW R s args RX1 RX1 80 yX1_lowestBucket cX1_lowestBucket 2 (some .int) (Cond.code yX1_lowestBucket cX1_lowestBucket 2 (some .int) :: wsL_law) rm rm.cells rm.slots 0 := cwV 0 hts (km_app (km_four km_121 km_122 km_123 km_2) (km_in km_124)) rfl rfl rfl (by decide +kernel) hR
theorem cw_RX1_84 {R : Room} {s : State} {args : Array Value} {rm : Room} (hts : ∀ w ∈ wsL_law, w.before args s = true) (hR : rm.frames + 1 ≤ R.frames ∧ 8 + (4 + 11) + rm.locals ≤ R.locals) : CallW R s args RX1 RX1 84 yX1_leastItemIn cX1_leastItemIn 4 (some .int) (Cond.code yX1_leastItemIn cX1_leastItemIn 4 (some .int) :: wsL_law) rm rm.cells rm.slots 1 := cwV 1 hts (km_app (km_four km_125 km_126 km_127 km_2) (km_in km_128)) rfl rfl rfl (by decide +kernel) hR
theorem cw_RX1_90 {R : Room} {s : State} {args : Array Value} {rm : Room} (hts : ∀ w ∈ wsL_law, w.before args s = true) (hR : rm.frames + 1 ≤ R.frames ∧ 8 + (2 + 11) + rm.locals ≤ R.locals) : CallW R s args RX1 RX1 90 yX1_takeOut cX1_takeOut 2 none (Cond.code yX1_takeOut cX1_takeOut 2 none :: wsL_law) rm rm.cells rm.slots 1 := cwV 1 hts (km_app (km_four km_133 km_134 km_135 km_2) (km_in km_136)) rfl rfl rfl (by decide +kernel) hR
theorem cw_RX1_87 {R : Room} {s : State} {args : Array Value} {rm : Room} (hts : ∀ w ∈ wsL_law, w.before args s = true) (hR : rm.frames + 1 ≤ R.frames ∧ 8 + (3 + 11) + rm.locals ≤ R.locals) : CallW R s args RX1 RX1 87 yX1_spread cX1_spread 3 none (Cond.code yX1_spread cX1_spread 3 none :: wsL_law) rm rm.cells rm.slots 1 := cwV 1 hts (km_app (km_four km_129 km_130 km_131 km_2) (km_in km_132)) rfl rfl rfl (by decide +kernel) hR
set_option maxHeartbeats 4000000 in
set_option maxRecDepth 100000 in
theorem sp_spread (l : Launch) (dC : Nat → ClassId) (dI : Nat → Nat → Nat) (A : Nat → Prop) (cI cA cZ : ClassId) (rest : va_W) (z : Nat → Nat) (n : Nat) (hn : n ≤ 40) (ar gl : Int32) (fl pr pg ky ac : Int32) (K B M Ds Bf : Nat → Int32) (L : Nat → Option Nat) (b : Int32) (hb1 : b ≠ -1) (hs : fqS n (fl, pr, pg, ky, K, B, M)) : Met l yX1_spread (Cond.code yX1_spread cX1_spread 3 none :: wsL_law) ({ frames := 3, cells := 0, slots := 0, locals := 64 } : Room) (va_Pc [.ref (z 0), .int b] (fx_Pre (dC, dI) classes (fq_ty cI cA cZ) A (wX z cI cA n ar gl fl pr pg ky ac K B M Ds Bf L ++ rest))) (va_Qv (S := fqQ) (fun u => u = fqspread b n 0 (fl, pr, pg, ky, K, B, M)) (fx_B (dC, dI) classes (fq_ty cI cA cZ) A (fun u : fqQ => wX z cI cA n ar gl u.1 u.2.1 u.2.2.1 u.2.2.2.1 ac u.2.2.2.2.1 u.2.2.2.2.2.1 u.2.2.2.2.2.2 Ds Bf L ++ rest)) A) 0 0 A := by
  refine Met.ofW (cc := cX1_spread) (maxL := 3) (ret := none) (by decide) rfl ?_
  intro p e s m args below meth c s₁ B0 hml hv
  obtain ⟨rfl, hA, hP, hK, hD, hN⟩ := hv
  have hx := B0.exec
  have hb := B0.bytes
  have hr := B0.returns
  have hts0 := atoms_spec (ws := (Cond.code yX1_spread cX1_spread 3 none :: wsL_law)) B0.pre
  have hts := fun w (h : w ∈ wsL_law) => hts0 w (List.mem_cons_of_mem _ h)
  have hown : s.vm.findClass RX1 = some m.cls := findClass_of_methodNamed B0.named
  have hlocks := B0.notSynchronized
  have hF : CallFix p m c cX1_spread 3 s ([.ref (z 0), .int b] : List Value).toArray wsL_law RX1 := ⟨hx, hb, hml, hown, hts⟩
  have hS : va_S A s.heap s.heap [] := va_S.rf
  have hl := lv_entry ([.ref (z 0), .int b]) (n := 3) (Nat.le_of_ble_eq_true rfl)
  rw [lg_entry_eq]
  generalize (lg_sl ([.ref (z 0), .int b]) ++ List.replicate (3 - (lg_sl ([.ref (z 0), .int b])).length) Slot.unset).toArray = ls at hl ⊢
  have hl : lv_has ls 3 [(0, .ref (z 0)), (1, .int b)] := hl
  have hn31 : n < 2 ^ 31 := by omega
  have K0 : ∀ (d i : Nat) (pg' : Int32) (B' M' : Nat → Int32) (H : Heap) (locs : List Loc) (ls : Array Slot), d + i = n → (fqspread b d i (fl, pr, pg', ky, K, B', M') = fqspread b n 0 (fl, pr, pg, ky, K, B, M)) → (fqS n (fl, pr, pg', ky, K, B', M')) → va_P (dC, dI) classes (wX z cI cA n ar gl fl pr pg' ky ac K B' M' Ds Bf L ++ rest) H → va_D A (wX z cI cA n ar gl fl pr pg' ky ac K B' M' Ds Bf L ++ rest) → va_S A s.heap H locs → lv_has ls 3 [(0, .ref (z 0)), (1, .int b), (2, .int (nI i))] → W p l e (headSpec (Cond.code yX1_spread cX1_spread 3 none :: wsL_law) ({ frames := 3, cells := 0, slots := 0, locals := 64 } : Room)).room s m ([.ref (z 0), .int b] : List Value).toArray below meth c H locs 0 0 (MQ below (va_Qv (S := fqQ) (fun u => u = fqspread b n 0 (fl, pr, pg, ky, K, B, M)) (fx_B (dC, dI) classes (fq_ty cI cA cZ) A (fun u : fqQ => wX z cI cA n ar gl u.1 u.2.1 u.2.2.1 u.2.2.2.1 ac u.2.2.2.2.1 u.2.2.2.2.2.1 u.2.2.2.2.2.2 Ds Bf L ++ rest)) A) ([.ref (z 0), .int b] : List Value).toArray s 0 0 A) (F0 m 2 ls []) := by
    intro d
    induction d with
    | zero =>
      intro i pg' B' M' H locs ls hdi hq hs' hP hD hS hl
      have e0 : i = n := by omega
      refine lv_iload_n hx hb dX1_spread_2 rfl (lv_at hl 2 rfl) ?_
      refine lv_aload_n hx hb dX1_spread_3 rfl (lv_at hl 0 rfl) ?_
      refine va_get (D := (dC, dI)) (ci := 0) (v := .int (nI n)) (C := RX1) (T := TX1) (N := 14) hx hb hts inlX1 hown hK hP 0 rfl rfl 0 (by decide) (hts _ km_23) (fun _ h9 => h9) rfl dX1_spread_4 ?_
      refine lv_icmp_ge (tgt := 31) hx hb dX1_spread_7 (by decide) (fun c_7 => ?_) (fun c_7 => ?_)
      · exact fx_vret hx hb hr hlocks hK hS dX1_spread_31 (fl, pr, pg', ky, K, B', M') (hq) hP hD
      · exact absurd (nI_le (by omega) (by omega)) c_7
    | succ d ih =>
      intro i pg' B' M' H locs ls hdi hq hs' hP hD hS hl
      have hi : i < n := by omega
      refine lv_iload_n hx hb dX1_spread_2 rfl (lv_at hl 2 rfl) ?_
      refine lv_aload_n hx hb dX1_spread_3 rfl (lv_at hl 0 rfl) ?_
      refine va_get (D := (dC, dI)) (ci := 0) (v := .int (nI n)) (C := RX1) (T := TX1) (N := 14) hx hb hts inlX1 hown hK hP 0 rfl rfl 0 (by decide) (hts _ km_23) (fun _ h9 => h9) rfl dX1_spread_4 ?_
      refine lv_icmp_ge (tgt := 31) hx hb dX1_spread_7 (by decide) (fun c_7 => ?_) (fun c_7 => ?_)
      · exact absurd c_7 (nI_ge hi hn31)
      · refine lv_aload_n hx hb dX1_spread_10 rfl (lv_at hl 0 rfl) ?_
        refine va_get (D := (dC, dI)) (ci := 0) (v := .ref (z 2)) (C := RX1) (T := TX1) (N := 14) hx hb hts inlX1 hown hK hP 0 rfl rfl 4 (by decide) (hts _ km_28) (fun _ h9 => h9) rfl dX1_spread_11 ?_
        refine lv_iload_n hx hb dX1_spread_14 rfl (lv_at hl 2 rfl) ?_
        refine fx_ald hx hb hK hP 2 0 rfl rfl i rfl hi hn31 dX1_spread_15 ?_
        refine lv_iload_n hx hb dX1_spread_16 rfl (lv_at hl 1 rfl) ?_
        refine lv_icmp_ne (tgt := 25) hx hb dX1_spread_17 (by decide) (fun c_17 => ?_) (fun c_17 => ?_)
        · refine lv_iinc (v := nI (i + 1)) (lv' := [(2, .int (nI (i + 1))), (0, .ref (z 0)), (1, .int b)]) hx hb dX1_spread_25 hl (k := 2) rfl (nI_1 i) (by decide) rfl (fun ls hl => ?_)
          refine lv_goto (tgt := 2) hx hb dX1_spread_28 (by decide) ?_
          exact ih (i + 1) pg' B' M' H locs ls (by omega) (by rw [← hq, fqspread_s, if_neg c_17]) (hs') hP hD hS (lv_sub hl [1, 2, 0] rfl)
        · have hk' := (hs'.2 i hi).2 (show B' i ≠ -1 by rw [c_17]; exact hb1)
          refine lv_aload_n hx hb dX1_spread_20 rfl (lv_at hl 0 rfl) ?_
          refine lv_iload_n hx hb dX1_spread_21 rfl (lv_at hl 2 rfl) ?_
          refine fx_Vv (rest := []) (sp_put l dC dI A cI cA cZ rest z n hn ar gl fl pr pg' ky ac K B' M' Ds Bf L i hi (hs'.2 i hi).1 hk' hs'.1) hF (cw_RX1_72 hts ⟨Nat.le_of_ble_eq_true rfl, Nat.le_of_ble_eq_true rfl⟩) hA hS hP hK hD hN 0 0 rfl rfl rfl hl.1 rfl (Nat.le_of_ble_eq_true rfl) dX1_spread_22 ⟨Nat.le_of_ble_eq_true rfl, Nat.le_of_ble_eq_true rfl⟩ (fun u H locs h hP hD hS => ?_)
          obtain ⟨pg1, B1, M1, e1⟩ := fqput_form fl pr pg' ky K B' M' i
          rw [e1] at h
          subst h
          have hP : va_P (dC, dI) classes (wX z cI cA n ar gl fl pr pg1 ky ac K B1 M1 Ds Bf L ++ rest) H := hP
          have hD : va_D A (wX z cI cA n ar gl fl pr pg1 ky ac K B1 M1 Ds Bf L ++ rest) := hD
          refine lv_iinc (v := nI (i + 1)) (lv' := [(2, .int (nI (i + 1))), (0, .ref (z 0)), (1, .int b)]) hx hb dX1_spread_25 hl (k := 2) rfl (nI_1 i) (by decide) rfl (fun ls hl => ?_)
          refine lv_goto (tgt := 2) hx hb dX1_spread_28 (by decide) ?_
          exact ih (i + 1) pg1 B1 M1 H locs ls (by omega) (by rw [← hq, fqspread_s, if_pos c_17, e1]) (by rw [← e1]; exact fqput_S hs' hk') hP hD hS (lv_sub hl [1, 2, 0] rfl)
  refine lv_iconst (v := 0) hx hb dX1_spread_0 (by decide) ?_
  refine lv_istore_n (lv' := [(2, .int 0), (0, .ref (z 0)), (1, .int b)]) hx hb dX1_spread_1 rfl hl (by decide) rfl (fun ls hl => ?_)
  exact K0 n 0 pg B M s.heap [] ls rfl rfl hs hP hD hS (lv_sub hl [1, 2, 0] rfl)
set_option maxHeartbeats 4000000 in
set_option maxRecDepth 100000 in
theorem sp_push (l : Launch) (dC : Nat → ClassId) (dI : Nat → Nat → Nat) (A : Nat → Prop) (cI cA cZ : ClassId) (rest : va_W) (z : Nat → Nat) (n : Nat) (hn : n ≤ 40) (ar gl : Int32) (fl pr pg ky ac : Int32) (K B M Ds Bf : Nat → Int32) (L : Nat → Option Nat) (x key : Int32) (hs : fqS n (fl, pr, pg, ky, K, B, M)) : Met l yX1_push (Cond.code yX1_push cX1_push 3 (some .int) :: wsL_law) ({ frames := 3, cells := 0, slots := 0, locals := 64 } : Room) (va_Pc [.ref (z 0), .int x, .int key] (fx_Pre (dC, dI) classes (fq_ty cI cA cZ) A (wX z cI cA n ar gl fl pr pg ky ac K B M Ds Bf L ++ rest))) (va_Qi (S := fqQ) (fun r u => (r, u) = fqpush n (fl, pr, pg, ky, K, B, M) x key) (fx_B (dC, dI) classes (fq_ty cI cA cZ) A (fun u : fqQ => wX z cI cA n ar gl u.1 u.2.1 u.2.2.1 u.2.2.2.1 ac u.2.2.2.2.1 u.2.2.2.2.2.1 u.2.2.2.2.2.2 Ds Bf L ++ rest)) A) 0 0 A := by
  refine Met.ofW (cc := cX1_push) (maxL := 3) (ret := (some .int)) (by decide) rfl ?_
  intro p e s m args below meth c s₁ B0 hml hv
  obtain ⟨rfl, hA, hP, hK, hD, hN⟩ := hv
  have hx := B0.exec
  have hb := B0.bytes
  have hr := B0.returns
  have hts0 := atoms_spec (ws := (Cond.code yX1_push cX1_push 3 (some .int) :: wsL_law)) B0.pre
  have hts := fun w (h : w ∈ wsL_law) => hts0 w (List.mem_cons_of_mem _ h)
  have hown : s.vm.findClass RX1 = some m.cls := findClass_of_methodNamed B0.named
  have hlocks := B0.notSynchronized
  have hF : CallFix p m c cX1_push 3 s ([.ref (z 0), .int x, .int key] : List Value).toArray wsL_law RX1 := ⟨hx, hb, hml, hown, hts⟩
  have hS : va_S A s.heap s.heap [] := va_S.rf
  have hl := lv_entry ([.ref (z 0), .int x, .int key]) (n := 3) (Nat.le_of_ble_eq_true rfl)
  rw [lg_entry_eq]
  generalize (lg_sl ([.ref (z 0), .int x, .int key]) ++ List.replicate (3 - (lg_sl ([.ref (z 0), .int x, .int key])).length) Slot.unset).toArray = ls at hl ⊢
  have hl : lv_has ls 3 [(0, .ref (z 0)), (1, .int x), (2, .int key)] := hl
  have hn31 : n < 2 ^ 31 := by omega
  refine lv_aload_n hx hb dX1_push_0 rfl (lv_at hl 0 rfl) ?_
  refine lv_iload_n hx hb dX1_push_1 rfl (lv_at hl 1 rfl) ?_
  refine fx_Vs (rest := []) (sp_isItem l dC dI A cI cA cZ rest z n hn ar gl fl pr pg ky ac K B M Ds Bf L x) hF (cw_RX1_56 hts ⟨Nat.le_of_ble_eq_true rfl, Nat.le_of_ble_eq_true rfl⟩) hA hS hP hK hD hN 0 0 rfl rfl rfl hl.1 rfl (Nat.le_of_ble_eq_true rfl) dX1_push_2 ⟨Nat.le_of_ble_eq_true rfl, Nat.le_of_ble_eq_true rfl⟩ (fun r h => ?_)
  rcases h with ⟨rfl, ⟨j, hj, rfl⟩⟩ | ⟨rfl, h⟩
  · refine lv_if_eq (tgt := 16) hx hb dX1_push_5 (by decide) (fun h9 => absurd h9 (by decide)) (fun _ => ?_)
    refine lv_aload_n hx hb dX1_push_8 rfl (lv_at hl 0 rfl) ?_
    refine lv_iload_n hx hb dX1_push_9 rfl (lv_at hl 1 rfl) ?_
    refine fx_Vs (rest := []) (sp_isThere l dC dI A cI cA cZ rest z n hn ar gl fl pr pg ky ac K B M Ds Bf L (nI j)) hF (cw_RX1_60 hts ⟨Nat.le_of_ble_eq_true rfl, Nat.le_of_ble_eq_true rfl⟩) hA hS hP hK hD hN 0 0 rfl rfl rfl hl.1 rfl (Nat.le_of_ble_eq_true rfl) dX1_push_10 ⟨Nat.le_of_ble_eq_true rfl, Nat.le_of_ble_eq_true rfl⟩ (fun r h => ?_)
    rcases h with ⟨rfl, ⟨j9, hj9, e9, h9⟩⟩ | ⟨rfl, h9⟩
    · have e8 := (nI_eq (by omega) (by omega)).mp e9
      subst e8
      refine lv_if_eq (tgt := 18) hx hb dX1_push_13 (by decide) (fun h9 => absurd h9 (by decide)) (fun _ => ?_)
      refine lv_iconst (v := (-1)) hx hb dX1_push_16 (by decide) ?_
      exact fx_iret hx hb hr hlocks hK hS dX1_push_17 (fl, pr, pg, ky, K, B, M) (by unfold fqpush; rw [fqat_some hj hn31]; exact (if_neg h9).symm) hP hD
    · have h8 : B j = -1 := h9 j hj rfl
      refine lv_if_eq (tgt := 18) hx hb dX1_push_13 (by decide) (fun _ => ?_) (fun h9 => absurd h9 (by decide))
      refine lv_iload_n hx hb dX1_push_18 rfl (lv_at hl 2 rfl) ?_
      refine lv_aload_n hx hb dX1_push_19 rfl (lv_at hl 0 rfl) ?_
      refine va_get (D := (dC, dI)) (ci := 0) (v := .int fl) (C := RX1) (T := TX1) (N := 14) hx hb hts inlX1 hown hK hP 0 rfl rfl 6 (by decide) (hts _ km_63) (fun _ h9 => h9) rfl dX1_push_20 ?_
      refine lv_icmp_ge (tgt := 29) hx hb dX1_push_23 (by decide) (fun c_23 => ?_) (fun c_23 => ?_)
      · refine lv_aload_n hx hb dX1_push_29 rfl (lv_at hl 0 rfl) ?_
        refine lv_dup hx hb dX1_push_30 rfl ?_
        refine va_get (D := (dC, dI)) (ci := 0) (v := .int pr) (C := RX1) (T := TX1) (N := 14) hx hb hts inlX1 hown hK hP 0 rfl rfl 7 (by decide) (hts _ km_64) (fun _ h9 => h9) rfl dX1_push_31 ?_
        refine lv_iconst (v := 1) hx hb dX1_push_34 (by decide) ?_
        refine lv_iadd hx hb dX1_push_35 ?_
        refine va_put (D := (dC, dI)) (ci := 0) (v := .int (pr + 1)) (ty := .int) (C := RX1) (T := TX1) (N := 14) hx hb hts inlX1 tyX1 tyX1_ok nmX1 hown hK hP hD hS 0 rfl rfl 7 (by decide) (hts _ km_64) (fun _ h9 => h9) rfl (by decide +kernel) rfl rfl (Nat.le_of_ble_eq_true rfl) dX1_push_36 (fun H locs hP hD hS => ?_)
        have hP : va_P (dC, dI) classes (wX z cI cA n ar gl fl (pr + 1) pg ky ac K B M Ds Bf L ++ rest) H := hP
        have hD : va_D A (wX z cI cA n ar gl fl (pr + 1) pg ky ac K B M Ds Bf L ++ rest) := hD
        refine lv_aload_n hx hb dX1_push_39 rfl (lv_at hl 0 rfl) ?_
        refine lv_dup hx hb dX1_push_40 rfl ?_
        refine va_get (D := (dC, dI)) (ci := 0) (v := .int ky) (C := RX1) (T := TX1) (N := 14) hx hb hts inlX1 hown hK hP 0 rfl rfl 9 (by decide) (hts _ km_65) (fun _ h9 => h9) rfl dX1_push_41 ?_
        refine lv_iconst (v := 1) hx hb dX1_push_44 (by decide) ?_
        refine lv_iadd hx hb dX1_push_45 ?_
        refine va_put (D := (dC, dI)) (ci := 0) (v := .int (ky + 1)) (ty := .int) (C := RX1) (T := TX1) (N := 14) hx hb hts inlX1 tyX1 tyX1_ok nmX1 hown hK hP hD hS 0 rfl rfl 9 (by decide) (hts _ km_65) (fun _ h9 => h9) rfl (by decide +kernel) rfl rfl (Nat.le_of_ble_eq_true rfl) dX1_push_46 (fun H locs hP hD hS => ?_)
        have hP : va_P (dC, dI) classes (wX z cI cA n ar gl fl (pr + 1) pg (ky + 1) ac K B M Ds Bf L ++ rest) H := hP
        have hD : va_D A (wX z cI cA n ar gl fl (pr + 1) pg (ky + 1) ac K B M Ds Bf L ++ rest) := hD
        refine lv_aload_n hx hb dX1_push_49 rfl (lv_at hl 0 rfl) ?_
        refine va_get (D := (dC, dI)) (ci := 0) (v := .ref (z 1)) (C := RX1) (T := TX1) (N := 14) hx hb hts inlX1 hown hK hP 0 rfl rfl 3 (by decide) (hts _ km_27) (fun _ h9 => h9) rfl dX1_push_50 ?_
        refine lv_iload_n hx hb dX1_push_53 rfl (lv_at hl 1 rfl) ?_
        refine lv_iload_n hx hb dX1_push_54 rfl (lv_at hl 2 rfl) ?_
        refine fx_ast hx hb hK hP hD hS 1 0 rfl rfl j rfl hj hn31 dX1_push_55 (fun H locs hP hD hS => ?_)
        have hP : va_P (dC, dI) classes (wX z cI cA n ar gl fl (pr + 1) pg (ky + 1) ac (upd K j key) B M Ds Bf L ++ rest) H := hP
        have hD : va_D A (wX z cI cA n ar gl fl (pr + 1) pg (ky + 1) ac (upd K j key) B M Ds Bf L ++ rest) := hD
        refine lv_aload_n hx hb dX1_push_56 rfl (lv_at hl 0 rfl) ?_
        refine lv_iload_n hx hb dX1_push_57 rfl (lv_at hl 1 rfl) ?_
        have hk' : ¬ (upd K j key) j < 0 := by rw [pk_us]; exact fq_le0 (Int32.not_lt.mpr c_23) hs.1
        refine fx_Vv (rest := []) (sp_put l dC dI A cI cA cZ rest z n hn ar gl fl (pr + 1) pg (ky + 1) ac (upd K j key) B M Ds Bf L j hj (hs.2 j hj).1 hk' hs.1) hF (cw_RX1_72 hts ⟨Nat.le_of_ble_eq_true rfl, Nat.le_of_ble_eq_true rfl⟩) hA hS hP hK hD hN 0 0 rfl rfl rfl hl.1 rfl (Nat.le_of_ble_eq_true rfl) dX1_push_58 ⟨Nat.le_of_ble_eq_true rfl, Nat.le_of_ble_eq_true rfl⟩ (fun u H locs h hP hD hS => ?_)
        obtain ⟨pg1, B1, M1, e1⟩ := fqput_form fl (pr + 1) pg (ky + 1) (upd K j key) B M j
        rw [e1] at h
        subst h
        have hP : va_P (dC, dI) classes (wX z cI cA n ar gl fl (pr + 1) pg1 (ky + 1) ac (upd K j key) B1 M1 Ds Bf L ++ rest) H := hP
        have hD : va_D A (wX z cI cA n ar gl fl (pr + 1) pg1 (ky + 1) ac (upd K j key) B1 M1 Ds Bf L ++ rest) := hD
        refine lv_iconst (v := 0) hx hb dX1_push_61 (by decide) ?_
        exact fx_iret hx hb hr hlocks hK hS dX1_push_62 (fl, pr + 1, pg1, ky + 1, upd K j key, B1, M1) (by unfold fqpush; rw [fqat_some hj hn31]; dsimp only; rw [if_pos h8, if_neg (Int32.not_lt.mpr c_23), e1]) hP hD
      · refine lv_bipush (v := (-2)) hx hb dX1_push_26 (by decide) ?_
        exact fx_iret hx hb hr hlocks hK hS dX1_push_28 (fl, pr, pg, ky, K, B, M) (by unfold fqpush; rw [fqat_some hj hn31]; dsimp only; rw [if_pos h8, if_pos (Int32.not_le.mp c_23)]) hP hD
  · refine lv_if_eq (tgt := 16) hx hb dX1_push_5 (by decide) (fun _ => ?_) (fun h9 => absurd h9 (by decide))
    refine lv_iconst (v := (-1)) hx hb dX1_push_16 (by decide) ?_
    exact fx_iret hx hb hr hlocks hK hS dX1_push_17 (fl, pr, pg, ky, K, B, M) (by unfold fqpush; rw [fqat_none hn31 h]) hP hD
set_option maxHeartbeats 4000000 in
set_option maxRecDepth 100000 in
theorem sp_lower (l : Launch) (dC : Nat → ClassId) (dI : Nat → Nat → Nat) (A : Nat → Prop) (cI cA cZ : ClassId) (rest : va_W) (z : Nat → Nat) (n : Nat) (hn : n ≤ 40) (ar gl : Int32) (fl pr pg ky ac : Int32) (K B M Ds Bf : Nat → Int32) (L : Nat → Option Nat) (x key : Int32) (hs : fqS n (fl, pr, pg, ky, K, B, M)) : Met l yX1_lower (Cond.code yX1_lower cX1_lower 3 (some .int) :: wsL_law) ({ frames := 3, cells := 0, slots := 0, locals := 64 } : Room) (va_Pc [.ref (z 0), .int x, .int key] (fx_Pre (dC, dI) classes (fq_ty cI cA cZ) A (wX z cI cA n ar gl fl pr pg ky ac K B M Ds Bf L ++ rest))) (va_Qi (S := fqQ) (fun r u => (r, u) = fqlower n (fl, pr, pg, ky, K, B, M) x key) (fx_B (dC, dI) classes (fq_ty cI cA cZ) A (fun u : fqQ => wX z cI cA n ar gl u.1 u.2.1 u.2.2.1 u.2.2.2.1 ac u.2.2.2.2.1 u.2.2.2.2.2.1 u.2.2.2.2.2.2 Ds Bf L ++ rest)) A) 0 0 A := by
  refine Met.ofW (cc := cX1_lower) (maxL := 3) (ret := (some .int)) (by decide) rfl ?_
  intro p e s m args below meth c s₁ B0 hml hv
  obtain ⟨rfl, hA, hP, hK, hD, hN⟩ := hv
  have hx := B0.exec
  have hb := B0.bytes
  have hr := B0.returns
  have hts0 := atoms_spec (ws := (Cond.code yX1_lower cX1_lower 3 (some .int) :: wsL_law)) B0.pre
  have hts := fun w (h : w ∈ wsL_law) => hts0 w (List.mem_cons_of_mem _ h)
  have hown : s.vm.findClass RX1 = some m.cls := findClass_of_methodNamed B0.named
  have hlocks := B0.notSynchronized
  have hF : CallFix p m c cX1_lower 3 s ([.ref (z 0), .int x, .int key] : List Value).toArray wsL_law RX1 := ⟨hx, hb, hml, hown, hts⟩
  have hS : va_S A s.heap s.heap [] := va_S.rf
  have hl := lv_entry ([.ref (z 0), .int x, .int key]) (n := 3) (Nat.le_of_ble_eq_true rfl)
  rw [lg_entry_eq]
  generalize (lg_sl ([.ref (z 0), .int x, .int key]) ++ List.replicate (3 - (lg_sl ([.ref (z 0), .int x, .int key])).length) Slot.unset).toArray = ls at hl ⊢
  have hl : lv_has ls 3 [(0, .ref (z 0)), (1, .int x), (2, .int key)] := hl
  have hn31 : n < 2 ^ 31 := by omega
  refine lv_aload_n hx hb dX1_lower_0 rfl (lv_at hl 0 rfl) ?_
  refine lv_iload_n hx hb dX1_lower_1 rfl (lv_at hl 1 rfl) ?_
  refine fx_Vs (rest := []) (sp_isThere l dC dI A cI cA cZ rest z n hn ar gl fl pr pg ky ac K B M Ds Bf L x) hF (cw_RX1_60 hts ⟨Nat.le_of_ble_eq_true rfl, Nat.le_of_ble_eq_true rfl⟩) hA hS hP hK hD hN 0 0 rfl rfl rfl hl.1 rfl (Nat.le_of_ble_eq_true rfl) dX1_lower_2 ⟨Nat.le_of_ble_eq_true rfl, Nat.le_of_ble_eq_true rfl⟩ (fun r h => ?_)
  rcases h with ⟨rfl, ⟨j, hj, rfl, h8⟩⟩ | ⟨rfl, h⟩
  · refine lv_if_ne (tgt := 10) hx hb dX1_lower_5 (by decide) (fun _ => ?_) (fun h9 => absurd h9 (by decide))
    refine lv_iload_n hx hb dX1_lower_10 rfl (lv_at hl 2 rfl) ?_
    refine lv_aload_n hx hb dX1_lower_11 rfl (lv_at hl 0 rfl) ?_
    refine va_get (D := (dC, dI)) (ci := 0) (v := .int fl) (C := RX1) (T := TX1) (N := 14) hx hb hts inlX1 hown hK hP 0 rfl rfl 6 (by decide) (hts _ km_63) (fun _ h9 => h9) rfl dX1_lower_12 ?_
    refine lv_icmp_lt (tgt := 28) hx hb dX1_lower_15 (by decide) (fun c_15 => ?_) (fun c_15 => ?_)
    · refine lv_bipush (v := (-2)) hx hb dX1_lower_28 (by decide) ?_
      exact fx_iret hx hb hr hlocks hK hS dX1_lower_30 (fl, pr, pg, ky, K, B, M) (by unfold fqlower; rw [fqat_some hj hn31]; dsimp only; rw [if_neg h8, if_pos c_15]) hP hD
    · refine lv_iload_n hx hb dX1_lower_18 rfl (lv_at hl 2 rfl) ?_
      refine lv_aload_n hx hb dX1_lower_19 rfl (lv_at hl 0 rfl) ?_
      refine va_get (D := (dC, dI)) (ci := 0) (v := .ref (z 1)) (C := RX1) (T := TX1) (N := 14) hx hb hts inlX1 hown hK hP 0 rfl rfl 3 (by decide) (hts _ km_27) (fun _ h9 => h9) rfl dX1_lower_20 ?_
      refine lv_iload_n hx hb dX1_lower_23 rfl (lv_at hl 1 rfl) ?_
      refine fx_ald hx hb hK hP 1 0 rfl rfl j rfl hj hn31 dX1_lower_24 ?_
      refine lv_icmp_le (tgt := 31) hx hb dX1_lower_25 (by decide) (fun c_25 => ?_) (fun c_25 => ?_)
      · refine lv_iload_n hx hb dX1_lower_31 rfl (lv_at hl 2 rfl) ?_
        refine lv_aload_n hx hb dX1_lower_32 rfl (lv_at hl 0 rfl) ?_
        refine va_get (D := (dC, dI)) (ci := 0) (v := .ref (z 1)) (C := RX1) (T := TX1) (N := 14) hx hb hts inlX1 hown hK hP 0 rfl rfl 3 (by decide) (hts _ km_27) (fun _ h9 => h9) rfl dX1_lower_33 ?_
        refine lv_iload_n hx hb dX1_lower_36 rfl (lv_at hl 1 rfl) ?_
        refine fx_ald hx hb hK hP 1 0 rfl rfl j rfl hj hn31 dX1_lower_37 ?_
        refine lv_icmp_ge (tgt := 77) hx hb dX1_lower_38 (by decide) (fun c_38 => ?_) (fun c_38 => ?_)
        · refine lv_iconst (v := 0) hx hb dX1_lower_77 (by decide) ?_
          exact fx_iret hx hb hr hlocks hK hS dX1_lower_78 (fl, pr, pg, ky, K, B, M) (by unfold fqlower; rw [fqat_some hj hn31]; dsimp only; rw [if_neg h8, if_neg c_15, if_pos c_25, if_pos c_38]) hP hD
        · refine lv_aload_n hx hb dX1_lower_41 rfl (lv_at hl 0 rfl) ?_
          refine lv_dup hx hb dX1_lower_42 rfl ?_
          refine va_get (D := (dC, dI)) (ci := 0) (v := .int ky) (C := RX1) (T := TX1) (N := 14) hx hb hts inlX1 hown hK hP 0 rfl rfl 9 (by decide) (hts _ km_65) (fun _ h9 => h9) rfl dX1_lower_43 ?_
          refine lv_iconst (v := 1) hx hb dX1_lower_46 (by decide) ?_
          refine lv_iadd hx hb dX1_lower_47 ?_
          refine va_put (D := (dC, dI)) (ci := 0) (v := .int (ky + 1)) (ty := .int) (C := RX1) (T := TX1) (N := 14) hx hb hts inlX1 tyX1 tyX1_ok nmX1 hown hK hP hD hS 0 rfl rfl 9 (by decide) (hts _ km_65) (fun _ h9 => h9) rfl (by decide +kernel) rfl rfl (Nat.le_of_ble_eq_true rfl) dX1_lower_48 (fun H locs hP hD hS => ?_)
          have hP : va_P (dC, dI) classes (wX z cI cA n ar gl fl pr pg (ky + 1) ac K B M Ds Bf L ++ rest) H := hP
          have hD : va_D A (wX z cI cA n ar gl fl pr pg (ky + 1) ac K B M Ds Bf L ++ rest) := hD
          refine lv_aload_n hx hb dX1_lower_51 rfl (lv_at hl 0 rfl) ?_
          refine va_get (D := (dC, dI)) (ci := 0) (v := .ref (z 1)) (C := RX1) (T := TX1) (N := 14) hx hb hts inlX1 hown hK hP 0 rfl rfl 3 (by decide) (hts _ km_27) (fun _ h9 => h9) rfl dX1_lower_52 ?_
          refine lv_iload_n hx hb dX1_lower_55 rfl (lv_at hl 1 rfl) ?_
          refine lv_iload_n hx hb dX1_lower_56 rfl (lv_at hl 2 rfl) ?_
          refine fx_ast hx hb hK hP hD hS 1 0 rfl rfl j rfl hj hn31 dX1_lower_57 (fun H locs hP hD hS => ?_)
          have hP : va_P (dC, dI) classes (wX z cI cA n ar gl fl pr pg (ky + 1) ac (upd K j key) B M Ds Bf L ++ rest) H := hP
          have hD : va_D A (wX z cI cA n ar gl fl pr pg (ky + 1) ac (upd K j key) B M Ds Bf L ++ rest) := hD
          refine lv_aload_n hx hb dX1_lower_58 rfl (lv_at hl 0 rfl) ?_
          refine lv_iload_n hx hb dX1_lower_59 rfl (lv_at hl 2 rfl) ?_
          have hk0 : ¬ key < 0 := fq_le0 c_15 hs.1
          refine fx_Vs (rest := []) (sp_bucketFor l dC dI A cI cA cZ rest z n hn ar gl fl pr pg (ky + 1) ac (upd K j key) B M Ds Bf L key hk0 hs.1) hF (cw_RX1_76 hts ⟨Nat.le_of_ble_eq_true rfl, Nat.le_of_ble_eq_true rfl⟩) hA hS hP hK hD hN 0 0 rfl rfl rfl hl.1 rfl (Nat.le_of_ble_eq_true rfl) dX1_lower_60 ⟨Nat.le_of_ble_eq_true rfl, Nat.le_of_ble_eq_true rfl⟩ (fun r h => ?_)
          subst h
          refine lv_aload_n hx hb dX1_lower_63 rfl (lv_at hl 0 rfl) ?_
          refine va_get (D := (dC, dI)) (ci := 0) (v := .ref (z 2)) (C := RX1) (T := TX1) (N := 14) hx hb hts inlX1 hown hK hP 0 rfl rfl 4 (by decide) (hts _ km_28) (fun _ h9 => h9) rfl dX1_lower_64 ?_
          refine lv_iload_n hx hb dX1_lower_67 rfl (lv_at hl 1 rfl) ?_
          refine fx_ald hx hb hK hP 2 0 rfl rfl j rfl hj hn31 dX1_lower_68 ?_
          refine lv_icmp_eq (tgt := 77) hx hb dX1_lower_69 (by decide) (fun c_69 => ?_) (fun c_69 => ?_)
          · refine lv_iconst (v := 0) hx hb dX1_lower_77 (by decide) ?_
            exact fx_iret hx hb hr hlocks hK hS dX1_lower_78 (fl, pr, pg, ky + 1, upd K j key, B, M) (by unfold fqlower; rw [fqat_some hj hn31]; dsimp only; rw [if_neg h8, if_neg c_15, if_pos c_25, if_neg c_38]; unfold fqlow1; dsimp only; rw [if_pos c_69]) hP hD
          · refine lv_aload_n hx hb dX1_lower_72 rfl (lv_at hl 0 rfl) ?_
            refine lv_iload_n hx hb dX1_lower_73 rfl (lv_at hl 1 rfl) ?_
            have hk' : ¬ (upd K j key) j < 0 := by rw [pk_us]; exact hk0
            refine fx_Vv (rest := []) (sp_put l dC dI A cI cA cZ rest z n hn ar gl fl pr pg (ky + 1) ac (upd K j key) B M Ds Bf L j hj (hs.2 j hj).1 hk' hs.1) hF (cw_RX1_72 hts ⟨Nat.le_of_ble_eq_true rfl, Nat.le_of_ble_eq_true rfl⟩) hA hS hP hK hD hN 0 0 rfl rfl rfl hl.1 rfl (Nat.le_of_ble_eq_true rfl) dX1_lower_74 ⟨Nat.le_of_ble_eq_true rfl, Nat.le_of_ble_eq_true rfl⟩ (fun u H locs h hP hD hS => ?_)
            obtain ⟨pg1, B1, M1, e1⟩ := fqput_form fl pr pg (ky + 1) (upd K j key) B M j
            rw [e1] at h
            subst h
            have hP : va_P (dC, dI) classes (wX z cI cA n ar gl fl pr pg1 (ky + 1) ac (upd K j key) B1 M1 Ds Bf L ++ rest) H := hP
            have hD : va_D A (wX z cI cA n ar gl fl pr pg1 (ky + 1) ac (upd K j key) B1 M1 Ds Bf L ++ rest) := hD
            refine lv_iconst (v := 0) hx hb dX1_lower_77 (by decide) ?_
            exact fx_iret hx hb hr hlocks hK hS dX1_lower_78 (fl, pr, pg1, ky + 1, upd K j key, B1, M1) (by unfold fqlower; rw [fqat_some hj hn31]; dsimp only; rw [if_neg h8, if_neg c_15, if_pos c_25, if_neg c_38]; unfold fqlow1; dsimp only; rw [if_neg c_69, e1]) hP hD
      · refine lv_bipush (v := (-2)) hx hb dX1_lower_28 (by decide) ?_
        exact fx_iret hx hb hr hlocks hK hS dX1_lower_30 (fl, pr, pg, ky, K, B, M) (by unfold fqlower; rw [fqat_some hj hn31]; dsimp only; rw [if_neg h8, if_neg c_15, if_neg c_25]) hP hD
  · refine lv_if_ne (tgt := 10) hx hb dX1_lower_5 (by decide) (fun h9 => absurd h9 (by decide)) (fun _ => ?_)
    refine lv_iconst (v := (-1)) hx hb dX1_lower_8 (by decide) ?_
    exact fx_iret hx hb hr hlocks hK hS dX1_lower_9 (fl, pr, pg, ky, K, B, M) ((fqlower_bad h).symm) hP hD
set_option maxHeartbeats 4000000 in
set_option maxRecDepth 100000 in
theorem sp_pop (l : Launch) (dC : Nat → ClassId) (dI : Nat → Nat → Nat) (A : Nat → Prop) (cI cA cZ : ClassId) (rest : va_W) (z : Nat → Nat) (n : Nat) (hn : n ≤ 40) (ar gl : Int32) (fl pr pg ky ac : Int32) (K B M Ds Bf : Nat → Int32) (L : Nat → Option Nat) (hs : fqS n (fl, pr, pg, ky, K, B, M)) : Met l yX1_pop (Cond.code yX1_pop cX1_pop 3 (some .int) :: wsL_law) ({ frames := 4, cells := 0, slots := 0, locals := 86 } : Room) (va_Pc [.ref (z 0)] (fx_Pre (dC, dI) classes (fq_ty cI cA cZ) A (wX z cI cA n ar gl fl pr pg ky ac K B M Ds Bf L ++ rest))) (va_Qi (S := fqQ) (fun r u => (r, u) = fqpop n (fl, pr, pg, ky, K, B, M)) (fx_B (dC, dI) classes (fq_ty cI cA cZ) A (fun u : fqQ => wX z cI cA n ar gl u.1 u.2.1 u.2.2.1 u.2.2.2.1 ac u.2.2.2.2.1 u.2.2.2.2.2.1 u.2.2.2.2.2.2 Ds Bf L ++ rest)) A) 0 0 A := by
  refine Met.ofW (cc := cX1_pop) (maxL := 3) (ret := (some .int)) (by decide) rfl ?_
  intro p e s m args below meth c s₁ B0 hml hv
  obtain ⟨rfl, hA, hP, hK, hD, hN⟩ := hv
  have hx := B0.exec
  have hb := B0.bytes
  have hr := B0.returns
  have hts0 := atoms_spec (ws := (Cond.code yX1_pop cX1_pop 3 (some .int) :: wsL_law)) B0.pre
  have hts := fun w (h : w ∈ wsL_law) => hts0 w (List.mem_cons_of_mem _ h)
  have hown : s.vm.findClass RX1 = some m.cls := findClass_of_methodNamed B0.named
  have hlocks := B0.notSynchronized
  have hF : CallFix p m c cX1_pop 3 s ([.ref (z 0)] : List Value).toArray wsL_law RX1 := ⟨hx, hb, hml, hown, hts⟩
  have hS : va_S A s.heap s.heap [] := va_S.rf
  have hl := lv_entry ([.ref (z 0)]) (n := 3) (Nat.le_of_ble_eq_true rfl)
  rw [lg_entry_eq]
  generalize (lg_sl ([.ref (z 0)]) ++ List.replicate (3 - (lg_sl ([.ref (z 0)])).length) Slot.unset).toArray = ls at hl ⊢
  have hl : lv_has ls 3 [(0, .ref (z 0))] := hl
  have hn31 : n < 2 ^ 31 := by omega
  refine lv_aload_n hx hb dX1_pop_0 rfl (lv_at hl 0 rfl) ?_
  refine fx_Vs (rest := []) (sp_low l dC dI A cI cA cZ rest z n hn ar gl fl pr pg ky ac K B M Ds Bf L) hF (cw_RX1_80 hts ⟨Nat.le_of_ble_eq_true rfl, Nat.le_of_ble_eq_true rfl⟩) hA hS hP hK hD hN 0 0 rfl rfl rfl hl.1 rfl (Nat.le_of_ble_eq_true rfl) dX1_pop_1 ⟨Nat.le_of_ble_eq_true rfl, Nat.le_of_ble_eq_true rfl⟩ (fun r h => ?_)
  subst h
  refine lv_istore_n (lv' := [(1, .int (fqopt (fqlow M 32 0))), (0, .ref (z 0))]) hx hb dX1_pop_4 rfl hl (by decide) rfl (fun ls hl => ?_)
  refine lv_aload_n hx hb dX1_pop_5 rfl (lv_at hl 1 rfl) ?_
  refine lv_iload_n hx hb dX1_pop_6 rfl (lv_at hl 0 rfl) ?_
  refine fx_Vs (rest := []) (sp_best l dC dI A cI cA cZ rest z n hn ar gl fl pr pg ky ac K B M Ds Bf L (fqopt (fqlow M 32 0))) hF (cw_RX1_84 hts ⟨Nat.le_of_ble_eq_true rfl, Nat.le_of_ble_eq_true rfl⟩) hA hS hP hK hD hN 0 0 rfl rfl rfl hl.1 rfl (Nat.le_of_ble_eq_true rfl) dX1_pop_7 ⟨Nat.le_of_ble_eq_true rfl, Nat.le_of_ble_eq_true rfl⟩ (fun r h => ?_)
  cases e9 : fqbest K B (fqopt (fqlow M 32 0)) n 0 none with
  | none =>
    rw [e9] at h
    have h : r = (-1) := h
    subst h
    refine lv_istore_n (lv' := [(2, .int (-1)), (1, .int (fqopt (fqlow M 32 0))), (0, .ref (z 0))]) hx hb dX1_pop_10 rfl hl (by decide) rfl (fun ls hl => ?_)
    refine lv_aload_n hx hb dX1_pop_11 rfl (lv_at hl 2 rfl) ?_
    refine lv_iload_n hx hb dX1_pop_12 rfl (lv_at hl 0 rfl) ?_
    refine fx_Vs (rest := []) (sp_isThere l dC dI A cI cA cZ rest z n hn ar gl fl pr pg ky ac K B M Ds Bf L (-1)) hF (cw_RX1_60 hts ⟨Nat.le_of_ble_eq_true rfl, Nat.le_of_ble_eq_true rfl⟩) hA hS hP hK hD hN 0 0 rfl rfl rfl hl.1 rfl (Nat.le_of_ble_eq_true rfl) dX1_pop_13 ⟨Nat.le_of_ble_eq_true rfl, Nat.le_of_ble_eq_true rfl⟩ (fun r h => ?_)
    rcases h with ⟨rfl, j9, hj9, e8, -⟩ | ⟨rfl, -⟩
    · exact absurd e8.symm (fq_nm1 (by omega))
    · refine lv_if_ne (tgt := 21) hx hb dX1_pop_16 (by decide) (fun h9 => absurd h9 (by decide)) (fun _ => ?_)
      refine lv_iconst (v := (-1)) hx hb dX1_pop_19 (by decide) ?_
      exact fx_iret hx hb hr hlocks hK hS dX1_pop_20 (fl, pr, pg, ky, K, B, M) (by unfold fqpop; dsimp only; rw [e9]) hP hD
  | some j =>
    rw [e9] at h
    have h : r = nI j := h
    subst h
    obtain ⟨-, hj, hBj, hBb⟩ := (fqbest_in n 0 none j e9).resolve_left (fun h => by cases h)
    have hj : j < n := by omega
    have hkj := (hs.2 j hj).2 hBj
    refine lv_istore_n (lv' := [(2, .int (nI j)), (1, .int (fqopt (fqlow M 32 0))), (0, .ref (z 0))]) hx hb dX1_pop_10 rfl hl (by decide) rfl (fun ls hl => ?_)
    refine lv_aload_n hx hb dX1_pop_11 rfl (lv_at hl 2 rfl) ?_
    refine lv_iload_n hx hb dX1_pop_12 rfl (lv_at hl 0 rfl) ?_
    refine fx_Vs (rest := []) (sp_isThere l dC dI A cI cA cZ rest z n hn ar gl fl pr pg ky ac K B M Ds Bf L (nI j)) hF (cw_RX1_60 hts ⟨Nat.le_of_ble_eq_true rfl, Nat.le_of_ble_eq_true rfl⟩) hA hS hP hK hD hN 0 0 rfl rfl rfl hl.1 rfl (Nat.le_of_ble_eq_true rfl) dX1_pop_13 ⟨Nat.le_of_ble_eq_true rfl, Nat.le_of_ble_eq_true rfl⟩ (fun r h => ?_)
    rcases h with ⟨rfl, -⟩ | ⟨rfl, h⟩
    · refine lv_if_ne (tgt := 21) hx hb dX1_pop_16 (by decide) (fun _ => ?_) (fun h9 => absurd h9 (by decide))
      refine lv_aload_n hx hb dX1_pop_21 rfl (lv_at hl 2 rfl) ?_
      refine lv_aload_n hx hb dX1_pop_22 rfl (lv_at hl 2 rfl) ?_
      refine va_get (D := (dC, dI)) (ci := 0) (v := .ref (z 1)) (C := RX1) (T := TX1) (N := 14) hx hb hts inlX1 hown hK hP 0 rfl rfl 3 (by decide) (hts _ km_27) (fun _ h9 => h9) rfl dX1_pop_23 ?_
      refine lv_iload_n hx hb dX1_pop_26 rfl (lv_at hl 0 rfl) ?_
      refine fx_ald hx hb hK hP 1 0 rfl rfl j rfl hj hn31 dX1_pop_27 ?_
      refine va_put (D := (dC, dI)) (ci := 0) (v := .int (K j)) (ty := .int) (C := RX1) (T := TX1) (N := 14) hx hb hts inlX1 tyX1 tyX1_ok nmX1 hown hK hP hD hS 0 rfl rfl 6 (by decide) (hts _ km_63) (fun _ h9 => h9) rfl (by decide +kernel) rfl rfl (Nat.le_of_ble_eq_true rfl) dX1_pop_28 (fun H locs hP hD hS => ?_)
      have hP : va_P (dC, dI) classes (wX z cI cA n ar gl (K j) pr pg ky ac K B M Ds Bf L ++ rest) H := hP
      have hD : va_D A (wX z cI cA n ar gl (K j) pr pg ky ac K B M Ds Bf L ++ rest) := hD
      refine lv_iload_n hx hb dX1_pop_31 rfl (lv_at hl 1 rfl) ?_
      refine lv_if_le (tgt := 40) hx hb dX1_pop_32 (by decide) (fun c_32 => ?_) (fun c_32 => ?_)
      · refine lv_aload_n hx hb dX1_pop_40 rfl (lv_at hl 2 rfl) ?_
        refine lv_iload_n hx hb dX1_pop_41 rfl (lv_at hl 0 rfl) ?_
        have hB2 := (hs.2 j hj).1
        refine fx_Vv (rest := []) (sp_take l dC dI A cI cA cZ rest z n hn ar gl (K j) pr pg ky ac K B M Ds Bf L j hj hB2) hF (cw_RX1_90 hts ⟨Nat.le_of_ble_eq_true rfl, Nat.le_of_ble_eq_true rfl⟩) hA hS hP hK hD hN 0 0 rfl rfl rfl hl.1 rfl (Nat.le_of_ble_eq_true rfl) dX1_pop_42 ⟨Nat.le_of_ble_eq_true rfl, Nat.le_of_ble_eq_true rfl⟩ (fun u H locs h hP hD hS => ?_)
        obtain ⟨pr2, B2, M2, e2⟩ := fqtake_form (K j) pr pg ky K B M j
        rw [e2] at h
        subst h
        have hP : va_P (dC, dI) classes (wX z cI cA n ar gl (K j) pr2 pg ky ac K B2 M2 Ds Bf L ++ rest) H := hP
        have hD : va_D A (wX z cI cA n ar gl (K j) pr2 pg ky ac K B2 M2 Ds Bf L ++ rest) := hD
        refine lv_iload_n hx hb dX1_pop_45 rfl (lv_at hl 0 rfl) ?_
        exact fx_iret hx hb hr hlocks hK hS dX1_pop_46 (K j, pr2, pg, ky, K, B2, M2) (by unfold fqpop; dsimp only; rw [e9]; dsimp only; rw [if_pos c_32, e2]) hP hD
      · refine lv_aload_n hx hb dX1_pop_35 rfl (lv_at hl 2 rfl) ?_
        refine lv_iload_n hx hb dX1_pop_36 rfl (lv_at hl 1 rfl) ?_
        have hb1 : fqopt (fqlow M 32 0) ≠ -1 := fun h => c_32 (by rw [h]; decide)
        have hs1 : fqS n (K j, pr, pg, ky, K, B, M) := ⟨hkj, hs.2⟩
        refine fx_Vv (rest := []) (sp_spread l dC dI A cI cA cZ rest z n hn ar gl (K j) pr pg ky ac K B M Ds Bf L (fqopt (fqlow M 32 0)) hb1 hs1) hF (cw_RX1_87 hts ⟨Nat.le_of_ble_eq_true rfl, Nat.le_of_ble_eq_true rfl⟩) hA hS hP hK hD hN 0 0 rfl rfl rfl hl.1 rfl (Nat.le_of_ble_eq_true rfl) dX1_pop_37 ⟨Nat.le_of_ble_eq_true rfl, Nat.le_of_ble_eq_true rfl⟩ (fun u H locs h hP hD hS => ?_)
        have hs2 := (fqspread_S hb1 n 0 _ (Nat.le_refl _) hs1).1
        obtain ⟨pg1, B1, M1, e1⟩ := fqspread_form (fqopt (fqlow M 32 0)) (K j) pr ky K n 0 pg B M
        rw [e1] at h
        subst h
        have hP : va_P (dC, dI) classes (wX z cI cA n ar gl (K j) pr pg1 ky ac K B1 M1 Ds Bf L ++ rest) H := hP
        have hD : va_D A (wX z cI cA n ar gl (K j) pr pg1 ky ac K B1 M1 Ds Bf L ++ rest) := hD
        rw [e1] at hs2
        have hB2 := (hs2.2 j hj).1
        refine lv_aload_n hx hb dX1_pop_40 rfl (lv_at hl 2 rfl) ?_
        refine lv_iload_n hx hb dX1_pop_41 rfl (lv_at hl 0 rfl) ?_
        refine fx_Vv (rest := []) (sp_take l dC dI A cI cA cZ rest z n hn ar gl (K j) pr pg1 ky ac K B1 M1 Ds Bf L j hj hB2) hF (cw_RX1_90 hts ⟨Nat.le_of_ble_eq_true rfl, Nat.le_of_ble_eq_true rfl⟩) hA hS hP hK hD hN 0 0 rfl rfl rfl hl.1 rfl (Nat.le_of_ble_eq_true rfl) dX1_pop_42 ⟨Nat.le_of_ble_eq_true rfl, Nat.le_of_ble_eq_true rfl⟩ (fun u H locs h hP hD hS => ?_)
        obtain ⟨pr2, B2, M2, e2⟩ := fqtake_form (K j) pr pg1 ky K B1 M1 j
        rw [e2] at h
        subst h
        have hP : va_P (dC, dI) classes (wX z cI cA n ar gl (K j) pr2 pg1 ky ac K B2 M2 Ds Bf L ++ rest) H := hP
        have hD : va_D A (wX z cI cA n ar gl (K j) pr2 pg1 ky ac K B2 M2 Ds Bf L ++ rest) := hD
        refine lv_iload_n hx hb dX1_pop_45 rfl (lv_at hl 0 rfl) ?_
        exact fx_iret hx hb hr hlocks hK hS dX1_pop_46 (K j, pr2, pg1, ky, K, B2, M2) (by unfold fqpop; dsimp only; rw [e9]; dsimp only; rw [if_neg c_32, e1, e2]) hP hD
    · exact absurd (h j hj rfl) hBj
end
section
theorem cw_RX1_50 {R : Room} {s : State} {args : Array Value} {rm : Room} (hts : ∀ w ∈ wsL_law, w.before args s = true) (hR : rm.frames + 1 ≤ R.frames ∧ 8 + (4 + 11) + rm.locals ≤ R.locals) : CallB R s args RX1 50 yJ7_fill_53178 cJ7_fill_53178 4 none (Cond.code yJ7_fill_53178 cJ7_fill_53178 4 none :: wsL_law) rm rm.cells rm.slots 2 ∧ (Cond.static yJ7_fill_53178).before args s = true := va_cwS 2 hts (km_app (km_three km_34 km_35 km_36) (km_in km_37)) rfl rfl rfl (by decide +kernel) hR
set_option maxHeartbeats 4000000 in
set_option maxRecDepth 100000 in
theorem sp_floor (l : Launch) (dC : Nat → ClassId) (dI : Nat → Nat → Nat) (A : Nat → Prop) (cI cA cZ : ClassId) (rest : va_W) (z : Nat → Nat) (n : Nat) (hn : n ≤ 40) (ar gl : Int32) (fl pr pg ky ac : Int32) (K B M Ds Bf : Nat → Int32) (L : Nat → Option Nat)  : Met l yX1_floor (Cond.code yX1_floor cX1_floor 1 (some .int) :: wsL_law) ({ frames := 0, cells := 0, slots := 0, locals := 0 } : Room) (va_Pc [.ref (z 0)] (fx_Pre (dC, dI) classes (fq_ty cI cA cZ) A (wX z cI cA n ar gl fl pr pg ky ac K B M Ds Bf L ++ rest))) (vp_Si (fun r => r = fl)) 0 0 (fun _ => False) := by
  refine Met.ofW (cc := cX1_floor) (maxL := 1) (ret := (some .int)) (by decide) rfl ?_
  intro p e s m args below meth c s₁ B0 hml hv
  obtain ⟨rfl, hA, hP, hK, hD, hN⟩ := hv
  have hx := B0.exec
  have hb := B0.bytes
  have hr := B0.returns
  have hts0 := atoms_spec (ws := (Cond.code yX1_floor cX1_floor 1 (some .int) :: wsL_law)) B0.pre
  have hts := fun w (h : w ∈ wsL_law) => hts0 w (List.mem_cons_of_mem _ h)
  have hown : s.vm.findClass RX1 = some m.cls := findClass_of_methodNamed B0.named
  have hlocks := B0.notSynchronized
  have hF : CallFix p m c cX1_floor 1 s ([.ref (z 0)] : List Value).toArray wsL_law RX1 := ⟨hx, hb, hml, hown, hts⟩
  have hS : va_S A s.heap s.heap [] := va_S.rf
  have hl := lv_entry ([.ref (z 0)]) (n := 1) (Nat.le_of_ble_eq_true rfl)
  rw [lg_entry_eq]
  generalize (lg_sl ([.ref (z 0)]) ++ List.replicate (1 - (lg_sl ([.ref (z 0)])).length) Slot.unset).toArray = ls at hl ⊢
  have hl : lv_has ls 1 [(0, .ref (z 0))] := hl
  have hn31 : n < 2 ^ 31 := by omega
  refine lv_aload_n hx hb dX1_floor_0 rfl (lv_at hl 0 rfl) ?_
  refine va_get (D := (dC, dI)) (ci := 0) (v := .int fl) (C := RX1) (T := TX1) (N := 14) hx hb hts inlX1 hown hK hP 0 rfl rfl 6 (by decide) (hts _ km_63) (fun _ h9 => h9) rfl dX1_floor_1 ?_
  exact fx_sret hx hb hr hlocks dX1_floor_4 (rfl)
set_option maxHeartbeats 4000000 in
set_option maxRecDepth 100000 in
theorem sp_size (l : Launch) (dC : Nat → ClassId) (dI : Nat → Nat → Nat) (A : Nat → Prop) (cI cA cZ : ClassId) (rest : va_W) (z : Nat → Nat) (n : Nat) (hn : n ≤ 40) (ar gl : Int32) (fl pr pg ky ac : Int32) (K B M Ds Bf : Nat → Int32) (L : Nat → Option Nat)  : Met l yX1_size (Cond.code yX1_size cX1_size 1 (some .int) :: wsL_law) ({ frames := 0, cells := 0, slots := 0, locals := 0 } : Room) (va_Pc [.ref (z 0)] (fx_Pre (dC, dI) classes (fq_ty cI cA cZ) A (wX z cI cA n ar gl fl pr pg ky ac K B M Ds Bf L ++ rest))) (vp_Si (fun r => r = pr)) 0 0 (fun _ => False) := by
  refine Met.ofW (cc := cX1_size) (maxL := 1) (ret := (some .int)) (by decide) rfl ?_
  intro p e s m args below meth c s₁ B0 hml hv
  obtain ⟨rfl, hA, hP, hK, hD, hN⟩ := hv
  have hx := B0.exec
  have hb := B0.bytes
  have hr := B0.returns
  have hts0 := atoms_spec (ws := (Cond.code yX1_size cX1_size 1 (some .int) :: wsL_law)) B0.pre
  have hts := fun w (h : w ∈ wsL_law) => hts0 w (List.mem_cons_of_mem _ h)
  have hown : s.vm.findClass RX1 = some m.cls := findClass_of_methodNamed B0.named
  have hlocks := B0.notSynchronized
  have hF : CallFix p m c cX1_size 1 s ([.ref (z 0)] : List Value).toArray wsL_law RX1 := ⟨hx, hb, hml, hown, hts⟩
  have hS : va_S A s.heap s.heap [] := va_S.rf
  have hl := lv_entry ([.ref (z 0)]) (n := 1) (Nat.le_of_ble_eq_true rfl)
  rw [lg_entry_eq]
  generalize (lg_sl ([.ref (z 0)]) ++ List.replicate (1 - (lg_sl ([.ref (z 0)])).length) Slot.unset).toArray = ls at hl ⊢
  have hl : lv_has ls 1 [(0, .ref (z 0))] := hl
  have hn31 : n < 2 ^ 31 := by omega
  refine lv_aload_n hx hb dX1_size_0 rfl (lv_at hl 0 rfl) ?_
  refine va_get (D := (dC, dI)) (ci := 0) (v := .int pr) (C := RX1) (T := TX1) (N := 14) hx hb hts inlX1 hown hK hP 0 rfl rfl 7 (by decide) (hts _ km_64) (fun _ h9 => h9) rfl dX1_size_1 ?_
  exact fx_sret hx hb hr hlocks dX1_size_4 (rfl)
set_option maxHeartbeats 4000000 in
set_option maxRecDepth 100000 in
theorem sp_placed (l : Launch) (dC : Nat → ClassId) (dI : Nat → Nat → Nat) (A : Nat → Prop) (cI cA cZ : ClassId) (rest : va_W) (z : Nat → Nat) (n : Nat) (hn : n ≤ 40) (ar gl : Int32) (fl pr pg ky ac : Int32) (K B M Ds Bf : Nat → Int32) (L : Nat → Option Nat)  : Met l yX1_placed (Cond.code yX1_placed cX1_placed 1 (some .int) :: wsL_law) ({ frames := 0, cells := 0, slots := 0, locals := 0 } : Room) (va_Pc [.ref (z 0)] (fx_Pre (dC, dI) classes (fq_ty cI cA cZ) A (wX z cI cA n ar gl fl pr pg ky ac K B M Ds Bf L ++ rest))) (vp_Si (fun r => r = pg)) 0 0 (fun _ => False) := by
  refine Met.ofW (cc := cX1_placed) (maxL := 1) (ret := (some .int)) (by decide) rfl ?_
  intro p e s m args below meth c s₁ B0 hml hv
  obtain ⟨rfl, hA, hP, hK, hD, hN⟩ := hv
  have hx := B0.exec
  have hb := B0.bytes
  have hr := B0.returns
  have hts0 := atoms_spec (ws := (Cond.code yX1_placed cX1_placed 1 (some .int) :: wsL_law)) B0.pre
  have hts := fun w (h : w ∈ wsL_law) => hts0 w (List.mem_cons_of_mem _ h)
  have hown : s.vm.findClass RX1 = some m.cls := findClass_of_methodNamed B0.named
  have hlocks := B0.notSynchronized
  have hF : CallFix p m c cX1_placed 1 s ([.ref (z 0)] : List Value).toArray wsL_law RX1 := ⟨hx, hb, hml, hown, hts⟩
  have hS : va_S A s.heap s.heap [] := va_S.rf
  have hl := lv_entry ([.ref (z 0)]) (n := 1) (Nat.le_of_ble_eq_true rfl)
  rw [lg_entry_eq]
  generalize (lg_sl ([.ref (z 0)]) ++ List.replicate (1 - (lg_sl ([.ref (z 0)])).length) Slot.unset).toArray = ls at hl ⊢
  have hl : lv_has ls 1 [(0, .ref (z 0))] := hl
  have hn31 : n < 2 ^ 31 := by omega
  refine lv_aload_n hx hb dX1_placed_0 rfl (lv_at hl 0 rfl) ?_
  refine va_get (D := (dC, dI)) (ci := 0) (v := .int pg) (C := RX1) (T := TX1) (N := 14) hx hb hts inlX1 hown hK hP 0 rfl rfl 8 (by decide) (hts _ km_78) (fun _ h9 => h9) rfl dX1_placed_1 ?_
  exact fx_sret hx hb hr hlocks dX1_placed_4 (rfl)
set_option maxHeartbeats 4000000 in
set_option maxRecDepth 100000 in
theorem sp_key (l : Launch) (dC : Nat → ClassId) (dI : Nat → Nat → Nat) (A : Nat → Prop) (cI cA cZ : ClassId) (rest : va_W) (z : Nat → Nat) (n : Nat) (hn : n ≤ 40) (ar gl : Int32) (fl pr pg ky ac : Int32) (K B M Ds Bf : Nat → Int32) (L : Nat → Option Nat) (x : Int32)  : Met l yX1_key (Cond.code yX1_key cX1_key 2 (some .int) :: wsL_law) ({ frames := 2, cells := 0, slots := 0, locals := 42 } : Room) (va_Pc [.ref (z 0), .int x] (fx_Pre (dC, dI) classes (fq_ty cI cA cZ) A (wX z cI cA n ar gl fl pr pg ky ac K B M Ds Bf L ++ rest))) (vp_Si (fun r => r = fqget n K (fun j => decide (B j ≠ -1)) x)) 0 0 (fun _ => False) := by
  refine Met.ofW (cc := cX1_key) (maxL := 2) (ret := (some .int)) (by decide) rfl ?_
  intro p e s m args below meth c s₁ B0 hml hv
  obtain ⟨rfl, hA, hP, hK, hD, hN⟩ := hv
  have hx := B0.exec
  have hb := B0.bytes
  have hr := B0.returns
  have hts0 := atoms_spec (ws := (Cond.code yX1_key cX1_key 2 (some .int) :: wsL_law)) B0.pre
  have hts := fun w (h : w ∈ wsL_law) => hts0 w (List.mem_cons_of_mem _ h)
  have hown : s.vm.findClass RX1 = some m.cls := findClass_of_methodNamed B0.named
  have hlocks := B0.notSynchronized
  have hF : CallFix p m c cX1_key 2 s ([.ref (z 0), .int x] : List Value).toArray wsL_law RX1 := ⟨hx, hb, hml, hown, hts⟩
  have hS : va_S A s.heap s.heap [] := va_S.rf
  have hl := lv_entry ([.ref (z 0), .int x]) (n := 2) (Nat.le_of_ble_eq_true rfl)
  rw [lg_entry_eq]
  generalize (lg_sl ([.ref (z 0), .int x]) ++ List.replicate (2 - (lg_sl ([.ref (z 0), .int x])).length) Slot.unset).toArray = ls at hl ⊢
  have hl : lv_has ls 2 [(0, .ref (z 0)), (1, .int x)] := hl
  have hn31 : n < 2 ^ 31 := by omega
  refine lv_aload_n hx hb dX1_key_0 rfl (lv_at hl 0 rfl) ?_
  refine lv_iload_n hx hb dX1_key_1 rfl (lv_at hl 1 rfl) ?_
  refine fx_Vs (rest := []) (sp_isThere l dC dI A cI cA cZ rest z n hn ar gl fl pr pg ky ac K B M Ds Bf L x) hF (cw_RX1_60 hts ⟨Nat.le_of_ble_eq_true rfl, Nat.le_of_ble_eq_true rfl⟩) hA hS hP hK hD hN 0 0 rfl rfl rfl hl.1 rfl (Nat.le_of_ble_eq_true rfl) dX1_key_2 ⟨Nat.le_of_ble_eq_true rfl, Nat.le_of_ble_eq_true rfl⟩ (fun r h => ?_)
  rcases h with ⟨rfl, ⟨j, hj, rfl, h8⟩⟩ | ⟨rfl, h⟩
  · refine lv_if_eq (tgt := 17) hx hb dX1_key_5 (by decide) (fun h9 => absurd h9 (by decide)) (fun _ => ?_)
    refine lv_aload_n hx hb dX1_key_8 rfl (lv_at hl 0 rfl) ?_
    refine va_get (D := (dC, dI)) (ci := 0) (v := .ref (z 1)) (C := RX1) (T := TX1) (N := 14) hx hb hts inlX1 hown hK hP 0 rfl rfl 3 (by decide) (hts _ km_27) (fun _ h9 => h9) rfl dX1_key_9 ?_
    refine lv_iload_n hx hb dX1_key_12 rfl (lv_at hl 1 rfl) ?_
    refine fx_ald hx hb hK hP 1 0 rfl rfl j rfl hj hn31 dX1_key_13 ?_
    refine lv_goto (tgt := 18) hx hb dX1_key_14 (by decide) ?_
    exact fx_sret hx hb hr hlocks dX1_key_18 (by unfold fqget; rw [fqat_some hj hn31]; dsimp only; rw [if_pos (by simp [h8])])
  · refine lv_if_eq (tgt := 17) hx hb dX1_key_5 (by decide) (fun _ => ?_) (fun h9 => absurd h9 (by decide))
    refine lv_iconst (v := (-1)) hx hb dX1_key_17 (by decide) ?_
    exact fx_sret hx hb hr hlocks dX1_key_18 (by unfold fqget; cases e : fqat n x with | none => rfl | some j => exact (if_neg (by simp [h j (fqat_lt e).1 (fqat_lt e).2])).symm)
set_option maxHeartbeats 4000000 in
set_option maxRecDepth 100000 in
theorem sp_bucket (l : Launch) (dC : Nat → ClassId) (dI : Nat → Nat → Nat) (A : Nat → Prop) (cI cA cZ : ClassId) (rest : va_W) (z : Nat → Nat) (n : Nat) (hn : n ≤ 40) (ar gl : Int32) (fl pr pg ky ac : Int32) (K B M Ds Bf : Nat → Int32) (L : Nat → Option Nat) (x : Int32)  : Met l yX1_bucket (Cond.code yX1_bucket cX1_bucket 2 (some .int) :: wsL_law) ({ frames := 2, cells := 0, slots := 0, locals := 42 } : Room) (va_Pc [.ref (z 0), .int x] (fx_Pre (dC, dI) classes (fq_ty cI cA cZ) A (wX z cI cA n ar gl fl pr pg ky ac K B M Ds Bf L ++ rest))) (vp_Si (fun r => r = fqget n B (fun j => decide (B j ≠ -1)) x)) 0 0 (fun _ => False) := by
  refine Met.ofW (cc := cX1_bucket) (maxL := 2) (ret := (some .int)) (by decide) rfl ?_
  intro p e s m args below meth c s₁ B0 hml hv
  obtain ⟨rfl, hA, hP, hK, hD, hN⟩ := hv
  have hx := B0.exec
  have hb := B0.bytes
  have hr := B0.returns
  have hts0 := atoms_spec (ws := (Cond.code yX1_bucket cX1_bucket 2 (some .int) :: wsL_law)) B0.pre
  have hts := fun w (h : w ∈ wsL_law) => hts0 w (List.mem_cons_of_mem _ h)
  have hown : s.vm.findClass RX1 = some m.cls := findClass_of_methodNamed B0.named
  have hlocks := B0.notSynchronized
  have hF : CallFix p m c cX1_bucket 2 s ([.ref (z 0), .int x] : List Value).toArray wsL_law RX1 := ⟨hx, hb, hml, hown, hts⟩
  have hS : va_S A s.heap s.heap [] := va_S.rf
  have hl := lv_entry ([.ref (z 0), .int x]) (n := 2) (Nat.le_of_ble_eq_true rfl)
  rw [lg_entry_eq]
  generalize (lg_sl ([.ref (z 0), .int x]) ++ List.replicate (2 - (lg_sl ([.ref (z 0), .int x])).length) Slot.unset).toArray = ls at hl ⊢
  have hl : lv_has ls 2 [(0, .ref (z 0)), (1, .int x)] := hl
  have hn31 : n < 2 ^ 31 := by omega
  refine lv_aload_n hx hb dX1_bucket_0 rfl (lv_at hl 0 rfl) ?_
  refine lv_iload_n hx hb dX1_bucket_1 rfl (lv_at hl 1 rfl) ?_
  refine fx_Vs (rest := []) (sp_isThere l dC dI A cI cA cZ rest z n hn ar gl fl pr pg ky ac K B M Ds Bf L x) hF (cw_RX1_60 hts ⟨Nat.le_of_ble_eq_true rfl, Nat.le_of_ble_eq_true rfl⟩) hA hS hP hK hD hN 0 0 rfl rfl rfl hl.1 rfl (Nat.le_of_ble_eq_true rfl) dX1_bucket_2 ⟨Nat.le_of_ble_eq_true rfl, Nat.le_of_ble_eq_true rfl⟩ (fun r h => ?_)
  rcases h with ⟨rfl, ⟨j, hj, rfl, h8⟩⟩ | ⟨rfl, h⟩
  · refine lv_if_eq (tgt := 17) hx hb dX1_bucket_5 (by decide) (fun h9 => absurd h9 (by decide)) (fun _ => ?_)
    refine lv_aload_n hx hb dX1_bucket_8 rfl (lv_at hl 0 rfl) ?_
    refine va_get (D := (dC, dI)) (ci := 0) (v := .ref (z 2)) (C := RX1) (T := TX1) (N := 14) hx hb hts inlX1 hown hK hP 0 rfl rfl 4 (by decide) (hts _ km_28) (fun _ h9 => h9) rfl dX1_bucket_9 ?_
    refine lv_iload_n hx hb dX1_bucket_12 rfl (lv_at hl 1 rfl) ?_
    refine fx_ald hx hb hK hP 2 0 rfl rfl j rfl hj hn31 dX1_bucket_13 ?_
    refine lv_goto (tgt := 18) hx hb dX1_bucket_14 (by decide) ?_
    exact fx_sret hx hb hr hlocks dX1_bucket_18 (by unfold fqget; rw [fqat_some hj hn31]; dsimp only; rw [if_pos (by simp [h8])])
  · refine lv_if_eq (tgt := 17) hx hb dX1_bucket_5 (by decide) (fun _ => ?_) (fun h9 => absurd h9 (by decide))
    refine lv_iconst (v := (-1)) hx hb dX1_bucket_17 (by decide) ?_
    exact fx_sret hx hb hr hlocks dX1_bucket_18 (by unfold fqget; cases e : fqat n x with | none => rfl | some j => exact (if_neg (by simp [h j (fqat_lt e).1 (fqat_lt e).2])).symm)
set_option maxHeartbeats 4000000 in
set_option maxRecDepth 100000 in
theorem sp_distance (l : Launch) (dC : Nat → ClassId) (dI : Nat → Nat → Nat) (A : Nat → Prop) (cI cA cZ : ClassId) (rest : va_W) (z : Nat → Nat) (n : Nat) (hn : n ≤ 40) (ar gl : Int32) (fl pr pg ky ac : Int32) (K B M Ds Bf : Nat → Int32) (L : Nat → Option Nat) (x : Int32)  : Met l yX1_distance (Cond.code yX1_distance cX1_distance 2 (some .int) :: wsL_law) ({ frames := 1, cells := 0, slots := 0, locals := 21 } : Room) (va_Pc [.ref (z 0), .int x] (fx_Pre (dC, dI) classes (fq_ty cI cA cZ) A (wX z cI cA n ar gl fl pr pg ky ac K B M Ds Bf L ++ rest))) (vp_Si (fun r => r = fqget n Ds (fun _ => true) x)) 0 0 (fun _ => False) := by
  refine Met.ofW (cc := cX1_distance) (maxL := 2) (ret := (some .int)) (by decide) rfl ?_
  intro p e s m args below meth c s₁ B0 hml hv
  obtain ⟨rfl, hA, hP, hK, hD, hN⟩ := hv
  have hx := B0.exec
  have hb := B0.bytes
  have hr := B0.returns
  have hts0 := atoms_spec (ws := (Cond.code yX1_distance cX1_distance 2 (some .int) :: wsL_law)) B0.pre
  have hts := fun w (h : w ∈ wsL_law) => hts0 w (List.mem_cons_of_mem _ h)
  have hown : s.vm.findClass RX1 = some m.cls := findClass_of_methodNamed B0.named
  have hlocks := B0.notSynchronized
  have hF : CallFix p m c cX1_distance 2 s ([.ref (z 0), .int x] : List Value).toArray wsL_law RX1 := ⟨hx, hb, hml, hown, hts⟩
  have hS : va_S A s.heap s.heap [] := va_S.rf
  have hl := lv_entry ([.ref (z 0), .int x]) (n := 2) (Nat.le_of_ble_eq_true rfl)
  rw [lg_entry_eq]
  generalize (lg_sl ([.ref (z 0), .int x]) ++ List.replicate (2 - (lg_sl ([.ref (z 0), .int x])).length) Slot.unset).toArray = ls at hl ⊢
  have hl : lv_has ls 2 [(0, .ref (z 0)), (1, .int x)] := hl
  have hn31 : n < 2 ^ 31 := by omega
  refine lv_aload_n hx hb dX1_distance_0 rfl (lv_at hl 0 rfl) ?_
  refine lv_iload_n hx hb dX1_distance_1 rfl (lv_at hl 1 rfl) ?_
  refine fx_Vs (rest := []) (sp_isItem l dC dI A cI cA cZ rest z n hn ar gl fl pr pg ky ac K B M Ds Bf L x) hF (cw_RX1_56 hts ⟨Nat.le_of_ble_eq_true rfl, Nat.le_of_ble_eq_true rfl⟩) hA hS hP hK hD hN 0 0 rfl rfl rfl hl.1 rfl (Nat.le_of_ble_eq_true rfl) dX1_distance_2 ⟨Nat.le_of_ble_eq_true rfl, Nat.le_of_ble_eq_true rfl⟩ (fun r h => ?_)
  rcases h with ⟨rfl, ⟨j, hj, rfl⟩⟩ | ⟨rfl, h⟩
  · refine lv_if_eq (tgt := 17) hx hb dX1_distance_5 (by decide) (fun h9 => absurd h9 (by decide)) (fun _ => ?_)
    refine lv_aload_n hx hb dX1_distance_8 rfl (lv_at hl 0 rfl) ?_
    refine va_get (D := (dC, dI)) (ci := 0) (v := .ref (z 5)) (C := RX1) (T := TX1) (N := 14) hx hb hts inlX1 hown hK hP 0 rfl rfl 12 (by decide) (hts _ km_32) (fun _ h9 => h9) rfl dX1_distance_9 ?_
    refine lv_iload_n hx hb dX1_distance_12 rfl (lv_at hl 1 rfl) ?_
    refine fx_ald hx hb hK hP 5 0 rfl rfl j rfl hj hn31 dX1_distance_13 ?_
    refine lv_goto (tgt := 18) hx hb dX1_distance_14 (by decide) ?_
    exact fx_sret hx hb hr hlocks dX1_distance_18 (by unfold fqget; rw [fqat_some hj hn31]; rfl)
  · refine lv_if_eq (tgt := 17) hx hb dX1_distance_5 (by decide) (fun _ => ?_) (fun h9 => absurd h9 (by decide))
    refine lv_iconst (v := (-1)) hx hb dX1_distance_17 (by decide) ?_
    exact fx_sret hx hb hr hlocks dX1_distance_18 (by unfold fqget; rw [fqat_none hn31 h])
set_option maxHeartbeats 4000000 in
set_option maxRecDepth 100000 in
theorem sp_before (l : Launch) (dC : Nat → ClassId) (dI : Nat → Nat → Nat) (A : Nat → Prop) (cI cA cZ : ClassId) (rest : va_W) (z : Nat → Nat) (n : Nat) (hn : n ≤ 40) (ar gl : Int32) (fl pr pg ky ac : Int32) (K B M Ds Bf : Nat → Int32) (L : Nat → Option Nat) (x : Int32)  : Met l yX1_before (Cond.code yX1_before cX1_before 2 (some .int) :: wsL_law) ({ frames := 1, cells := 0, slots := 0, locals := 21 } : Room) (va_Pc [.ref (z 0), .int x] (fx_Pre (dC, dI) classes (fq_ty cI cA cZ) A (wX z cI cA n ar gl fl pr pg ky ac K B M Ds Bf L ++ rest))) (vp_Si (fun r => r = fqget n Bf (fun _ => true) x)) 0 0 (fun _ => False) := by
  refine Met.ofW (cc := cX1_before) (maxL := 2) (ret := (some .int)) (by decide) rfl ?_
  intro p e s m args below meth c s₁ B0 hml hv
  obtain ⟨rfl, hA, hP, hK, hD, hN⟩ := hv
  have hx := B0.exec
  have hb := B0.bytes
  have hr := B0.returns
  have hts0 := atoms_spec (ws := (Cond.code yX1_before cX1_before 2 (some .int) :: wsL_law)) B0.pre
  have hts := fun w (h : w ∈ wsL_law) => hts0 w (List.mem_cons_of_mem _ h)
  have hown : s.vm.findClass RX1 = some m.cls := findClass_of_methodNamed B0.named
  have hlocks := B0.notSynchronized
  have hF : CallFix p m c cX1_before 2 s ([.ref (z 0), .int x] : List Value).toArray wsL_law RX1 := ⟨hx, hb, hml, hown, hts⟩
  have hS : va_S A s.heap s.heap [] := va_S.rf
  have hl := lv_entry ([.ref (z 0), .int x]) (n := 2) (Nat.le_of_ble_eq_true rfl)
  rw [lg_entry_eq]
  generalize (lg_sl ([.ref (z 0), .int x]) ++ List.replicate (2 - (lg_sl ([.ref (z 0), .int x])).length) Slot.unset).toArray = ls at hl ⊢
  have hl : lv_has ls 2 [(0, .ref (z 0)), (1, .int x)] := hl
  have hn31 : n < 2 ^ 31 := by omega
  refine lv_aload_n hx hb dX1_before_0 rfl (lv_at hl 0 rfl) ?_
  refine lv_iload_n hx hb dX1_before_1 rfl (lv_at hl 1 rfl) ?_
  refine fx_Vs (rest := []) (sp_isItem l dC dI A cI cA cZ rest z n hn ar gl fl pr pg ky ac K B M Ds Bf L x) hF (cw_RX1_56 hts ⟨Nat.le_of_ble_eq_true rfl, Nat.le_of_ble_eq_true rfl⟩) hA hS hP hK hD hN 0 0 rfl rfl rfl hl.1 rfl (Nat.le_of_ble_eq_true rfl) dX1_before_2 ⟨Nat.le_of_ble_eq_true rfl, Nat.le_of_ble_eq_true rfl⟩ (fun r h => ?_)
  rcases h with ⟨rfl, ⟨j, hj, rfl⟩⟩ | ⟨rfl, h⟩
  · refine lv_if_eq (tgt := 17) hx hb dX1_before_5 (by decide) (fun h9 => absurd h9 (by decide)) (fun _ => ?_)
    refine lv_aload_n hx hb dX1_before_8 rfl (lv_at hl 0 rfl) ?_
    refine va_get (D := (dC, dI)) (ci := 0) (v := .ref (z 6)) (C := RX1) (T := TX1) (N := 14) hx hb hts inlX1 hown hK hP 0 rfl rfl 13 (by decide) (hts _ km_33) (fun _ h9 => h9) rfl dX1_before_9 ?_
    refine lv_iload_n hx hb dX1_before_12 rfl (lv_at hl 1 rfl) ?_
    refine fx_ald hx hb hK hP 6 0 rfl rfl j rfl hj hn31 dX1_before_13 ?_
    refine lv_goto (tgt := 18) hx hb dX1_before_14 (by decide) ?_
    exact fx_sret hx hb hr hlocks dX1_before_18 (by unfold fqget; rw [fqat_some hj hn31]; rfl)
  · refine lv_if_eq (tgt := 17) hx hb dX1_before_5 (by decide) (fun _ => ?_) (fun h9 => absurd h9 (by decide))
    refine lv_iconst (v := (-1)) hx hb dX1_before_17 (by decide) ?_
    exact fx_sret hx hb hr hlocks dX1_before_18 (by unfold fqget; rw [fqat_none hn31 h])
set_option maxHeartbeats 4000000 in
set_option maxRecDepth 100000 in
theorem sp_many (l : Launch) (dC : Nat → ClassId) (dI : Nat → Nat → Nat) (A : Nat → Prop) (cI cA cZ : ClassId) (rest : va_W) (z : Nat → Nat) (n : Nat) (hn : n ≤ 40) (ar gl : Int32) (fl pr pg ky ac : Int32) (K B M Ds Bf : Nat → Int32) (L : Nat → Option Nat) (x : Int32)  : Met l yX1_many (Cond.code yX1_many cX1_many 2 (some .int) :: wsL_law) ({ frames := 0, cells := 0, slots := 0, locals := 0 } : Room) (va_Pc [.ref (z 0), .int x] (fx_Pre (dC, dI) classes (fq_ty cI cA cZ) A (wX z cI cA n ar gl fl pr pg ky ac K B M Ds Bf L ++ rest))) (vp_Si (fun r => r = fqmany M x)) 0 0 (fun _ => False) := by
  refine Met.ofW (cc := cX1_many) (maxL := 2) (ret := (some .int)) (by decide) rfl ?_
  intro p e s m args below meth c s₁ B0 hml hv
  obtain ⟨rfl, hA, hP, hK, hD, hN⟩ := hv
  have hx := B0.exec
  have hb := B0.bytes
  have hr := B0.returns
  have hts0 := atoms_spec (ws := (Cond.code yX1_many cX1_many 2 (some .int) :: wsL_law)) B0.pre
  have hts := fun w (h : w ∈ wsL_law) => hts0 w (List.mem_cons_of_mem _ h)
  have hown : s.vm.findClass RX1 = some m.cls := findClass_of_methodNamed B0.named
  have hlocks := B0.notSynchronized
  have hF : CallFix p m c cX1_many 2 s ([.ref (z 0), .int x] : List Value).toArray wsL_law RX1 := ⟨hx, hb, hml, hown, hts⟩
  have hS : va_S A s.heap s.heap [] := va_S.rf
  have hl := lv_entry ([.ref (z 0), .int x]) (n := 2) (Nat.le_of_ble_eq_true rfl)
  rw [lg_entry_eq]
  generalize (lg_sl ([.ref (z 0), .int x]) ++ List.replicate (2 - (lg_sl ([.ref (z 0), .int x])).length) Slot.unset).toArray = ls at hl ⊢
  have hl : lv_has ls 2 [(0, .ref (z 0)), (1, .int x)] := hl
  have hn31 : n < 2 ^ 31 := by omega
  refine lv_iload_n hx hb dX1_many_0 rfl (lv_at hl 1 rfl) ?_
  refine lv_if_lt (tgt := 19) hx hb dX1_many_1 (by decide) (fun c_1 => ?_) (fun c_1 => ?_)
  · refine lv_iconst (v := (-1)) hx hb dX1_many_19 (by decide) ?_
    exact fx_sret hx hb hr hlocks dX1_many_20 (by unfold fqmany fqat; rw [if_pos c_1])
  · refine lv_iload_n hx hb dX1_many_4 rfl (lv_at hl 1 rfl) ?_
    refine lv_bipush (v := 32) hx hb dX1_many_5 (by decide) ?_
    refine lv_icmp_ge (tgt := 19) hx hb dX1_many_7 (by decide) (fun c_7 => ?_) (fun c_7 => ?_)
    · refine lv_iconst (v := (-1)) hx hb dX1_many_19 (by decide) ?_
      exact fx_sret hx hb hr hlocks dX1_many_20 (by unfold fqmany fqat; rw [if_neg c_1, if_pos (show nI 32 ≤ x from c_7)])
    · obtain ⟨j, hj, rfl⟩ := fq_ix (n := 32) (by decide) c_1 c_7
      refine lv_aload_n hx hb dX1_many_10 rfl (lv_at hl 0 rfl) ?_
      refine va_get (D := (dC, dI)) (ci := 0) (v := .ref (z 3)) (C := RX1) (T := TX1) (N := 14) hx hb hts inlX1 hown hK hP 0 rfl rfl 5 (by decide) (hts _ km_29) (fun _ h9 => h9) rfl dX1_many_11 ?_
      refine lv_iload_n hx hb dX1_many_14 rfl (lv_at hl 1 rfl) ?_
      refine fx_ald hx hb hK hP 3 0 rfl rfl j rfl hj (by decide) dX1_many_15 ?_
      refine lv_goto (tgt := 20) hx hb dX1_many_16 (by decide) ?_
      exact fx_sret hx hb hr hlocks dX1_many_20 (by unfold fqmany; rw [fqat_some hj (by decide)])
set_option maxHeartbeats 4000000 in
set_option maxRecDepth 100000 in
theorem sp_empty (l : Launch) (dC : Nat → ClassId) (dI : Nat → Nat → Nat) (A : Nat → Prop) (cI cA cZ : ClassId) (rest : va_W) (z : Nat → Nat) (n : Nat) (hn : n ≤ 40) (ar gl : Int32) (fl pr pg ky ac : Int32) (K B M Ds Bf : Nat → Int32) (L : Nat → Option Nat)  : Met l yX1_emptyQueue (Cond.code yX1_emptyQueue cX1_emptyQueue 1 none :: wsL_law) ({ frames := 1, cells := 0, slots := 0, locals := 23 } : Room) (va_Pc [.ref (z 0)] (fx_Pre (dC, dI) classes (fq_ty cI cA cZ) A (wX z cI cA n ar gl fl pr pg ky ac K B M Ds Bf L ++ rest))) (va_Qv (S := fqQ) (fun u => u = fqempty n (fl, pr, pg, ky, K, B, M)) (fx_B (dC, dI) classes (fq_ty cI cA cZ) A (fun u : fqQ => wX z cI cA n ar gl u.1 u.2.1 u.2.2.1 u.2.2.2.1 ac u.2.2.2.2.1 u.2.2.2.2.2.1 u.2.2.2.2.2.2 Ds Bf L ++ rest)) A) 0 0 A := by
  refine Met.ofW (cc := cX1_emptyQueue) (maxL := 1) (ret := none) (by decide) rfl ?_
  intro p e s m args below meth c s₁ B0 hml hv
  obtain ⟨rfl, hA, hP, hK, hD, hN⟩ := hv
  have hx := B0.exec
  have hb := B0.bytes
  have hr := B0.returns
  have hts0 := atoms_spec (ws := (Cond.code yX1_emptyQueue cX1_emptyQueue 1 none :: wsL_law)) B0.pre
  have hts := fun w (h : w ∈ wsL_law) => hts0 w (List.mem_cons_of_mem _ h)
  have hown : s.vm.findClass RX1 = some m.cls := findClass_of_methodNamed B0.named
  have hlocks := B0.notSynchronized
  have hF : CallFix p m c cX1_emptyQueue 1 s ([.ref (z 0)] : List Value).toArray wsL_law RX1 := ⟨hx, hb, hml, hown, hts⟩
  have hS : va_S A s.heap s.heap [] := va_S.rf
  have hl := lv_entry ([.ref (z 0)]) (n := 1) (Nat.le_of_ble_eq_true rfl)
  rw [lg_entry_eq]
  generalize (lg_sl ([.ref (z 0)]) ++ List.replicate (1 - (lg_sl ([.ref (z 0)])).length) Slot.unset).toArray = ls at hl ⊢
  have hl : lv_has ls 1 [(0, .ref (z 0))] := hl
  have hn31 : n < 2 ^ 31 := by omega
  refine lv_aload_n hx hb dX1_emptyQueue_0 rfl (lv_at hl 0 rfl) ?_
  refine va_get (D := (dC, dI)) (ci := 0) (v := .ref (z 2)) (C := RX1) (T := TX1) (N := 14) hx hb hts inlX1 hown hK hP 0 rfl rfl 4 (by decide) (hts _ km_28) (fun _ h9 => h9) rfl dX1_emptyQueue_1 ?_
  refine lv_iconst (v := (-1)) hx hb dX1_emptyQueue_4 (by decide) ?_
  refine fx_Sv (rest := []) (sp_fill l dC dI A cI cA cZ (wX z cI cA n ar gl fl pr pg ky ac K B M Ds Bf L ++ rest) 2 (z 2) n B (-1) rfl hn31) hF (cw_RX1_50 hts ⟨Nat.le_of_ble_eq_true rfl, Nat.le_of_ble_eq_true rfl⟩) hA hS hP hK hD hN rfl hl.1 rfl (Nat.le_of_ble_eq_true rfl) dX1_emptyQueue_5 ⟨Nat.le_of_ble_eq_true rfl, Nat.le_of_ble_eq_true rfl⟩ (fun u H locs h hP hD hS => ?_)
  subst h
  have hP : va_P (dC, dI) classes (wX z cI cA n ar gl fl pr pg ky ac K (fqfill n (-1) B) M Ds Bf L ++ rest) H := hP
  have hD : va_D A (wX z cI cA n ar gl fl pr pg ky ac K (fqfill n (-1) B) M Ds Bf L ++ rest) := hD
  refine lv_aload_n hx hb dX1_emptyQueue_8 rfl (lv_at hl 0 rfl) ?_
  refine va_get (D := (dC, dI)) (ci := 0) (v := .ref (z 3)) (C := RX1) (T := TX1) (N := 14) hx hb hts inlX1 hown hK hP 0 rfl rfl 5 (by decide) (hts _ km_29) (fun _ h9 => h9) rfl dX1_emptyQueue_9 ?_
  refine lv_iconst (v := 0) hx hb dX1_emptyQueue_12 (by decide) ?_
  refine fx_Sv (rest := []) (sp_fill l dC dI A cI cA cZ (wX z cI cA n ar gl fl pr pg ky ac K (fqfill n (-1) B) M Ds Bf L ++ rest) 3 (z 3) 32 M 0 rfl (by decide)) hF (cw_RX1_50 hts ⟨Nat.le_of_ble_eq_true rfl, Nat.le_of_ble_eq_true rfl⟩) hA hS hP hK hD hN rfl hl.1 rfl (Nat.le_of_ble_eq_true rfl) dX1_emptyQueue_13 ⟨Nat.le_of_ble_eq_true rfl, Nat.le_of_ble_eq_true rfl⟩ (fun u H locs h hP hD hS => ?_)
  subst h
  have hP : va_P (dC, dI) classes (wX z cI cA n ar gl fl pr pg ky ac K (fqfill n (-1) B) (fqfill 32 0 M) Ds Bf L ++ rest) H := hP
  have hD : va_D A (wX z cI cA n ar gl fl pr pg ky ac K (fqfill n (-1) B) (fqfill 32 0 M) Ds Bf L ++ rest) := hD
  refine lv_aload_n hx hb dX1_emptyQueue_16 rfl (lv_at hl 0 rfl) ?_
  refine lv_iconst (v := 0) hx hb dX1_emptyQueue_17 (by decide) ?_
  refine va_put (D := (dC, dI)) (ci := 0) (v := .int 0) (ty := .int) (C := RX1) (T := TX1) (N := 14) hx hb hts inlX1 tyX1 tyX1_ok nmX1 hown hK hP hD hS 0 rfl rfl 7 (by decide) (hts _ km_64) (fun _ h9 => h9) rfl (by decide +kernel) rfl rfl (Nat.le_of_ble_eq_true rfl) dX1_emptyQueue_18 (fun H locs hP hD hS => ?_)
  have hP : va_P (dC, dI) classes (wX z cI cA n ar gl fl 0 pg ky ac K (fqfill n (-1) B) (fqfill 32 0 M) Ds Bf L ++ rest) H := hP
  have hD : va_D A (wX z cI cA n ar gl fl 0 pg ky ac K (fqfill n (-1) B) (fqfill 32 0 M) Ds Bf L ++ rest) := hD
  refine lv_aload_n hx hb dX1_emptyQueue_21 rfl (lv_at hl 0 rfl) ?_
  refine lv_iconst (v := 0) hx hb dX1_emptyQueue_22 (by decide) ?_
  refine va_put (D := (dC, dI)) (ci := 0) (v := .int 0) (ty := .int) (C := RX1) (T := TX1) (N := 14) hx hb hts inlX1 tyX1 tyX1_ok nmX1 hown hK hP hD hS 0 rfl rfl 6 (by decide) (hts _ km_63) (fun _ h9 => h9) rfl (by decide +kernel) rfl rfl (Nat.le_of_ble_eq_true rfl) dX1_emptyQueue_23 (fun H locs hP hD hS => ?_)
  have hP : va_P (dC, dI) classes (wX z cI cA n ar gl 0 0 pg ky ac K (fqfill n (-1) B) (fqfill 32 0 M) Ds Bf L ++ rest) H := hP
  have hD : va_D A (wX z cI cA n ar gl 0 0 pg ky ac K (fqfill n (-1) B) (fqfill 32 0 M) Ds Bf L ++ rest) := hD
  exact fx_vret hx hb hr hlocks hK hS dX1_emptyQueue_26 (0, 0, pg, ky, K, fqfill n (-1) B, fqfill 32 0 M) (rfl) hP hD
set_option maxHeartbeats 4000000 in
set_option maxRecDepth 100000 in
theorem sp_forget (l : Launch) (dC : Nat → ClassId) (dI : Nat → Nat → Nat) (A : Nat → Prop) (cI cA cZ : ClassId) (rest : va_W) (z : Nat → Nat) (n : Nat) (hn : n ≤ 40) (ar gl : Int32) (fl pr pg ky ac : Int32) (K B M Ds Bf : Nat → Int32) (L : Nat → Option Nat)  : Met l yX1_forgetWays (Cond.code yX1_forgetWays cX1_forgetWays 1 none :: wsL_law) ({ frames := 1, cells := 0, slots := 0, locals := 23 } : Room) (va_Pc [.ref (z 0)] (fx_Pre (dC, dI) classes (fq_ty cI cA cZ) A (wX z cI cA n ar gl fl pr pg ky ac K B M Ds Bf L ++ rest))) (va_Qv (S := ((Nat → Int32) × (Nat → Int32))) (fun u => u = (fqfill n (-1) Ds, fqfill n (-1) Bf)) (fx_B (dC, dI) classes (fq_ty cI cA cZ) A (fun u : (Nat → Int32) × (Nat → Int32) => wX z cI cA n ar gl fl pr pg ky ac K B M u.1 u.2 L ++ rest)) A) 0 0 A := by
  refine Met.ofW (cc := cX1_forgetWays) (maxL := 1) (ret := none) (by decide) rfl ?_
  intro p e s m args below meth c s₁ B0 hml hv
  obtain ⟨rfl, hA, hP, hK, hD, hN⟩ := hv
  have hx := B0.exec
  have hb := B0.bytes
  have hr := B0.returns
  have hts0 := atoms_spec (ws := (Cond.code yX1_forgetWays cX1_forgetWays 1 none :: wsL_law)) B0.pre
  have hts := fun w (h : w ∈ wsL_law) => hts0 w (List.mem_cons_of_mem _ h)
  have hown : s.vm.findClass RX1 = some m.cls := findClass_of_methodNamed B0.named
  have hlocks := B0.notSynchronized
  have hF : CallFix p m c cX1_forgetWays 1 s ([.ref (z 0)] : List Value).toArray wsL_law RX1 := ⟨hx, hb, hml, hown, hts⟩
  have hS : va_S A s.heap s.heap [] := va_S.rf
  have hl := lv_entry ([.ref (z 0)]) (n := 1) (Nat.le_of_ble_eq_true rfl)
  rw [lg_entry_eq]
  generalize (lg_sl ([.ref (z 0)]) ++ List.replicate (1 - (lg_sl ([.ref (z 0)])).length) Slot.unset).toArray = ls at hl ⊢
  have hl : lv_has ls 1 [(0, .ref (z 0))] := hl
  have hn31 : n < 2 ^ 31 := by omega
  refine lv_aload_n hx hb dX1_forgetWays_0 rfl (lv_at hl 0 rfl) ?_
  refine va_get (D := (dC, dI)) (ci := 0) (v := .ref (z 5)) (C := RX1) (T := TX1) (N := 14) hx hb hts inlX1 hown hK hP 0 rfl rfl 12 (by decide) (hts _ km_32) (fun _ h9 => h9) rfl dX1_forgetWays_1 ?_
  refine lv_iconst (v := (-1)) hx hb dX1_forgetWays_4 (by decide) ?_
  refine fx_Sv (rest := []) (sp_fill l dC dI A cI cA cZ (wX z cI cA n ar gl fl pr pg ky ac K B M Ds Bf L ++ rest) 5 (z 5) n Ds (-1) rfl hn31) hF (cw_RX1_50 hts ⟨Nat.le_of_ble_eq_true rfl, Nat.le_of_ble_eq_true rfl⟩) hA hS hP hK hD hN rfl hl.1 rfl (Nat.le_of_ble_eq_true rfl) dX1_forgetWays_5 ⟨Nat.le_of_ble_eq_true rfl, Nat.le_of_ble_eq_true rfl⟩ (fun u H locs h hP hD hS => ?_)
  subst h
  have hP : va_P (dC, dI) classes (wX z cI cA n ar gl fl pr pg ky ac K B M (fqfill n (-1) Ds) Bf L ++ rest) H := hP
  have hD : va_D A (wX z cI cA n ar gl fl pr pg ky ac K B M (fqfill n (-1) Ds) Bf L ++ rest) := hD
  refine lv_aload_n hx hb dX1_forgetWays_8 rfl (lv_at hl 0 rfl) ?_
  refine va_get (D := (dC, dI)) (ci := 0) (v := .ref (z 6)) (C := RX1) (T := TX1) (N := 14) hx hb hts inlX1 hown hK hP 0 rfl rfl 13 (by decide) (hts _ km_33) (fun _ h9 => h9) rfl dX1_forgetWays_9 ?_
  refine lv_iconst (v := (-1)) hx hb dX1_forgetWays_12 (by decide) ?_
  refine fx_Sv (rest := []) (sp_fill l dC dI A cI cA cZ (wX z cI cA n ar gl fl pr pg ky ac K B M (fqfill n (-1) Ds) Bf L ++ rest) 6 (z 6) n Bf (-1) rfl hn31) hF (cw_RX1_50 hts ⟨Nat.le_of_ble_eq_true rfl, Nat.le_of_ble_eq_true rfl⟩) hA hS hP hK hD hN rfl hl.1 rfl (Nat.le_of_ble_eq_true rfl) dX1_forgetWays_13 ⟨Nat.le_of_ble_eq_true rfl, Nat.le_of_ble_eq_true rfl⟩ (fun u H locs h hP hD hS => ?_)
  subst h
  have hP : va_P (dC, dI) classes (wX z cI cA n ar gl fl pr pg ky ac K B M (fqfill n (-1) Ds) (fqfill n (-1) Bf) L ++ rest) H := hP
  have hD : va_D A (wX z cI cA n ar gl fl pr pg ky ac K B M (fqfill n (-1) Ds) (fqfill n (-1) Bf) L ++ rest) := hD
  exact fx_vret hx hb hr hlocks hK hS dX1_forgetWays_16 (fqfill n (-1) Ds, fqfill n (-1) Bf) (rfl) hP hD
set_option maxHeartbeats 4000000 in
set_option maxRecDepth 100000 in
theorem sp_count (l : Launch) (dC : Nat → ClassId) (dI : Nat → Nat → Nat) (A : Nat → Prop) (cI cA cZ : ClassId) (rest : va_W) (z : Nat → Nat) (n : Nat) (hn : n ≤ 40) (ar gl : Int32) (fl pr pg ky ac : Int32) (K B M Ds Bf : Nat → Int32) (L : Nat → Option Nat) (x : Int32)  : Met l yX1_count (Cond.code yX1_count cX1_count 2 (some .int) :: wsL_law) ({ frames := 0, cells := 0, slots := 0, locals := 0 } : Room) (va_Pc [.ref (z 0), .int x] (fx_Pre (dC, dI) classes (fq_ty cI cA cZ) A (wX z cI cA n ar gl fl pr pg ky ac K B M Ds Bf L ++ rest))) (vp_Si (fun r => r = fqcount n ac ky x)) 0 0 (fun _ => False) := by
  refine Met.ofW (cc := cX1_count) (maxL := 2) (ret := (some .int)) (by decide) rfl ?_
  intro p e s m args below meth c s₁ B0 hml hv
  obtain ⟨rfl, hA, hP, hK, hD, hN⟩ := hv
  have hx := B0.exec
  have hb := B0.bytes
  have hr := B0.returns
  have hts0 := atoms_spec (ws := (Cond.code yX1_count cX1_count 2 (some .int) :: wsL_law)) B0.pre
  have hts := fun w (h : w ∈ wsL_law) => hts0 w (List.mem_cons_of_mem _ h)
  have hown : s.vm.findClass RX1 = some m.cls := findClass_of_methodNamed B0.named
  have hlocks := B0.notSynchronized
  have hF : CallFix p m c cX1_count 2 s ([.ref (z 0), .int x] : List Value).toArray wsL_law RX1 := ⟨hx, hb, hml, hown, hts⟩
  have hS : va_S A s.heap s.heap [] := va_S.rf
  have hl := lv_entry ([.ref (z 0), .int x]) (n := 2) (Nat.le_of_ble_eq_true rfl)
  rw [lg_entry_eq]
  generalize (lg_sl ([.ref (z 0), .int x]) ++ List.replicate (2 - (lg_sl ([.ref (z 0), .int x])).length) Slot.unset).toArray = ls at hl ⊢
  have hl : lv_has ls 2 [(0, .ref (z 0)), (1, .int x)] := hl
  have hn31 : n < 2 ^ 31 := by omega
  refine lv_iload_n hx hb dX1_count_0 rfl (lv_at hl 1 rfl) ?_
  by_cases h0 : x = 0
  · subst h0
    refine lv_tableIn (tgt := 28) (off := 27) hx hb dX1_count_1 (by decide) (by decide) (by decide) (by decide) ?_
    refine lv_aload_n hx hb dX1_count_28 rfl (lv_at hl 0 rfl) ?_
    refine va_get (D := (dC, dI)) (ci := 0) (v := .int (nI n)) (C := RX1) (T := TX1) (N := 14) hx hb hts inlX1 hown hK hP 0 rfl rfl 0 (by decide) (hts _ km_23) (fun _ h9 => h9) rfl dX1_count_29 ?_
    exact fx_sret hx hb hr hlocks dX1_count_32 (by unfold fqcount; rw [if_pos rfl])
  by_cases h1 : x = 1
  · subst h1
    refine lv_tableIn (tgt := 33) (off := 32) hx hb dX1_count_1 (by decide) (by decide) (by decide) (by decide) ?_
    refine lv_aload_n hx hb dX1_count_33 rfl (lv_at hl 0 rfl) ?_
    refine va_get (D := (dC, dI)) (ci := 0) (v := .int ac) (C := RX1) (T := TX1) (N := 14) hx hb hts inlX1 hown hK hP 0 rfl rfl 11 (by decide) (hts _ km_193) (fun _ h9 => h9) rfl dX1_count_34 ?_
    exact fx_sret hx hb hr hlocks dX1_count_37 (by unfold fqcount; rw [if_neg h0, if_pos rfl])
  by_cases h2 : x = 2
  · subst h2
    refine lv_tableIn (tgt := 38) (off := 37) hx hb dX1_count_1 (by decide) (by decide) (by decide) (by decide) ?_
    refine lv_aload_n hx hb dX1_count_38 rfl (lv_at hl 0 rfl) ?_
    refine va_get (D := (dC, dI)) (ci := 0) (v := .int ky) (C := RX1) (T := TX1) (N := 14) hx hb hts inlX1 hown hK hP 0 rfl rfl 9 (by decide) (hts _ km_65) (fun _ h9 => h9) rfl dX1_count_39 ?_
    exact fx_sret hx hb hr hlocks dX1_count_42 (by unfold fqcount; rw [if_neg h0, if_neg h1, if_pos rfl])
  refine lv_tableOut (tgt := 43) hx hb dX1_count_1 (by
    rcases (show x.toInt < 0 ∨ 2 < x.toInt ∨ x.toInt = 0 ∨ x.toInt = 1 ∨ x.toInt = 2 by omega) with q | q | q | q | q
    · exact Or.inl q
    · exact Or.inr q
    · exact absurd (Int32.toInt_inj.mp (show x.toInt = ((0 : Int32)).toInt from q)) h0
    · exact absurd (Int32.toInt_inj.mp (show x.toInt = ((1 : Int32)).toInt from q)) h1
    · exact absurd (Int32.toInt_inj.mp (show x.toInt = ((2 : Int32)).toInt from q)) h2
    ) (by decide) ?_
  refine lv_iconst (v := (-1)) hx hb dX1_count_43 (by decide) ?_
  exact fx_sret hx hb hr hlocks dX1_count_44 (by unfold fqcount; rw [if_neg h0, if_neg h1, if_neg h2])
end
section
theorem cw_RX1_102 {R : Room} {s : State} {args : Array Value} {rm : Room} (hts : ∀ w ∈ wsL_law, w.before args s = true) (hR : rm.frames + 1 ≤ R.frames ∧ 8 + (1 + 11) + rm.locals ≤ R.locals) : CallW R s args RX1 RX1 102 yX1_forgetWays cX1_forgetWays 1 none (Cond.code yX1_forgetWays cX1_forgetWays 1 none :: wsL_law) rm rm.cells rm.slots 0 := cwV 0 hts (km_app (km_four km_202 km_203 km_204 km_2) (km_in km_205)) rfl rfl rfl (by decide +kernel) hR
theorem cw_RX1_153 {R : Room} {s : State} {args : Array Value} {rm : Room} (hts : ∀ w ∈ wsL_law, w.before args s = true) (hR : rm.frames + 1 ≤ R.frames ∧ 8 + (3 + 11) + rm.locals ≤ R.locals) : CallW R s args RX1 RX1 153 yX1_leadsToUntaken cX1_leadsToUntaken 3 (some .boolean) (Cond.code yX1_leadsToUntaken cX1_leadsToUntaken 3 (some .boolean) :: wsL_law) rm rm.cells rm.slots 1 := cwV 1 hts (km_app (km_four km_236 km_237 km_238 km_2) (km_in km_239)) rfl rfl rfl (by decide +kernel) hR
set_option maxHeartbeats 4000000 in
set_option maxRecDepth 100000 in
theorem sp_arcN (l : Launch) (dC : Nat → ClassId) (dI : Nat → Nat → Nat) (A : Nat → Prop) (cI cA cZ : ClassId) (ws : va_W) (q0 a : Nat) (e0 w0 : Int32) (ha : ws[q0]? = some (a, .inr (1, [.int 0, .int 0, .null]))) : Met l yX0_init (Cond.code yX0_init cX0_init 4 none :: wsL_law) ({ frames := 1, cells := 0, slots := 0, locals := 14 } : Room) (va_Pc [.ref a, .int e0, .int w0, .null] (fx_Pre (dC, dI) classes (fq_ty cI cA cZ) A ws)) (va_Qv (S := Unit) (fun _ => True) (fx_B (dC, dI) classes (fq_ty cI cA cZ) A (fun _ => ws.set q0 (a, .inr (1, [.int e0, .int w0, .null])))) A) 0 0 A := by
  refine Met.ofW (cc := cX0_init) (maxL := 4) (ret := none) (by decide) rfl ?_
  intro p e s m args below meth c s₁ B0 hml hv
  obtain ⟨rfl, hA, hP, hK, hD, hN⟩ := hv
  have hx := B0.exec
  have hb := B0.bytes
  have hr := B0.returns
  have hts0 := atoms_spec (ws := (Cond.code yX0_init cX0_init 4 none :: wsL_law)) B0.pre
  have hts := fun w (h : w ∈ wsL_law) => hts0 w (List.mem_cons_of_mem _ h)
  have hown : s.vm.findClass RX0 = some m.cls := findClass_of_methodNamed B0.named
  have hlocks := B0.notSynchronized
  have hF : CallFix p m c cX0_init 4 s ([.ref a, .int e0, .int w0, .null] : List Value).toArray wsL_law RX0 := ⟨hx, hb, hml, hown, hts⟩
  have hin : meth.name = "<init>" := (name_of_methodNamed B0.named B0.method).1
  have hS : va_S A s.heap s.heap [] := va_S.rf
  have hl := lv_entry ([.ref a, .int e0, .int w0, .null]) (n := 4) (Nat.le_of_ble_eq_true rfl)
  rw [lg_entry_eq]
  generalize (lg_sl ([.ref a, .int e0, .int w0, .null]) ++ List.replicate (4 - (lg_sl ([.ref a, .int e0, .int w0, .null])).length) Slot.unset).toArray = ls at hl ⊢
  have hl : lv_has ls 4 [(0, .ref a), (1, .int e0), (2, .int w0), (3, .null)] := hl
  have hq0 := (List.getElem?_eq_some_iff.mp ha).1
  refine lv_aload_n hx hb dX0_init_0 rfl (lv_at hl 0 rfl) ?_
  refine W.objInit hx hb hown (hts _ km_198) (hts _ km_14) (hts _ km_15) rfl (by rw [hml]; exact hl.1) rfl dX0_init_1 (Nat.le_of_ble_eq_true rfl) (Nat.le_of_ble_eq_true rfl) ?_
  refine W.eq (g2 := F0 m 4 ls []) rfl ?_
  refine lv_aload_n hx hb dX0_init_4 rfl (lv_at hl 0 rfl) ?_
  refine lv_iload_n hx hb dX0_init_5 rfl (lv_at hl 1 rfl) ?_
  refine va_putF (D := (dC, dI)) (ci := 1) (v := .int e0) (ty := .int) (C := RX0) (T := TX0) (N := 3) hx hb hts inlX0 tyX0 tyX0_ok nmX0 hown hK hP hD hS q0 ha rfl 0 (by decide) (hts _ km_199) (fun _ h9 => h9) rfl hin rfl (by decide +kernel) rfl rfl (Nat.le_of_ble_eq_true rfl) dX0_init_6 (fun H locs hP hD hS => ?_)
  have hP : va_P (dC, dI) classes (ws.set q0 (a, .inr (1, [.int e0, .int 0, .null]))) H := hP
  have hD : va_D A (ws.set q0 (a, .inr (1, [.int e0, .int 0, .null]))) := hD
  have ha0 : (ws.set q0 (a, .inr (1, [.int e0, .int 0, .null])))[q0]? = some (a, .inr (1, [.int e0, .int 0, .null])) := List.getElem?_set_self hq0
  refine lv_aload_n hx hb dX0_init_9 rfl (lv_at hl 0 rfl) ?_
  refine lv_iload_n hx hb dX0_init_10 rfl (lv_at hl 2 rfl) ?_
  refine va_putF (D := (dC, dI)) (ci := 1) (v := .int w0) (ty := .int) (C := RX0) (T := TX0) (N := 3) hx hb hts inlX0 tyX0 tyX0_ok nmX0 hown hK hP hD hS q0 ha0 rfl 1 (by decide) (hts _ km_200) (fun _ h9 => h9) rfl hin rfl (by decide +kernel) rfl rfl (Nat.le_of_ble_eq_true rfl) dX0_init_11 (fun H locs hP hD hS => ?_)
  rw [List.set_set] at hP hD
  have hP : va_P (dC, dI) classes (ws.set q0 (a, .inr (1, [.int e0, .int w0, .null]))) H := hP
  have hD : va_D A (ws.set q0 (a, .inr (1, [.int e0, .int w0, .null]))) := hD
  have ha1 : (ws.set q0 (a, .inr (1, [.int e0, .int w0, .null])))[q0]? = some (a, .inr (1, [.int e0, .int w0, .null])) := List.getElem?_set_self hq0
  refine lv_aload_n hx hb dX0_init_14 rfl (lv_at hl 0 rfl) ?_
  refine lv_aload_nN hx hb dX0_init_15 rfl (lv_at hl 3 rfl) ?_
  refine va_putF (D := (dC, dI)) (ci := 1) (v := .null) (ty := .object "FloorQueue$Arc") (C := RX0) (T := TX0) (N := 3) hx hb hts inlX0 tyX0 tyX0_ok nmX0 hown hK hP hD hS q0 ha1 rfl 2 (by decide) (hts _ km_201) (fun _ h9 => h9) rfl hin rfl (by decide +kernel) rfl rfl (Nat.le_of_ble_eq_true rfl) dX0_init_16 (fun H locs hP hD hS => ?_)
  rw [List.set_set] at hP hD
  have hP : va_P (dC, dI) classes (ws.set q0 (a, .inr (1, [.int e0, .int w0, .null]))) H := hP
  have hD : va_D A (ws.set q0 (a, .inr (1, [.int e0, .int w0, .null]))) := hD
  have ha2 : (ws.set q0 (a, .inr (1, [.int e0, .int w0, .null])))[q0]? = some (a, .inr (1, [.int e0, .int w0, .null])) := List.getElem?_set_self hq0
  exact fx_vret hx hb hr hlocks hK hS dX0_init_19 () trivial hP hD
set_option maxHeartbeats 4000000 in
set_option maxRecDepth 100000 in
theorem sp_arcS (l : Launch) (dC : Nat → ClassId) (dI : Nat → Nat → Nat) (A : Nat → Prop) (cI cA cZ : ClassId) (ws : va_W) (q0 a : Nat) (e0 w0 : Int32) (r : Nat) (ha : ws[q0]? = some (a, .inr (1, [.int 0, .int 0, .null]))) : Met l yX0_init (Cond.code yX0_init cX0_init 4 none :: wsL_law) ({ frames := 1, cells := 0, slots := 0, locals := 14 } : Room) (va_Pc [.ref a, .int e0, .int w0, .ref r] (fx_Pre (dC, dI) classes (fq_ty cI cA cZ) A ws)) (va_Qv (S := Unit) (fun _ => True) (fx_B (dC, dI) classes (fq_ty cI cA cZ) A (fun _ => ws.set q0 (a, .inr (1, [.int e0, .int w0, .ref r])))) A) 0 0 A := by
  refine Met.ofW (cc := cX0_init) (maxL := 4) (ret := none) (by decide) rfl ?_
  intro p e s m args below meth c s₁ B0 hml hv
  obtain ⟨rfl, hA, hP, hK, hD, hN⟩ := hv
  have hx := B0.exec
  have hb := B0.bytes
  have hr := B0.returns
  have hts0 := atoms_spec (ws := (Cond.code yX0_init cX0_init 4 none :: wsL_law)) B0.pre
  have hts := fun w (h : w ∈ wsL_law) => hts0 w (List.mem_cons_of_mem _ h)
  have hown : s.vm.findClass RX0 = some m.cls := findClass_of_methodNamed B0.named
  have hlocks := B0.notSynchronized
  have hF : CallFix p m c cX0_init 4 s ([.ref a, .int e0, .int w0, .ref r] : List Value).toArray wsL_law RX0 := ⟨hx, hb, hml, hown, hts⟩
  have hin : meth.name = "<init>" := (name_of_methodNamed B0.named B0.method).1
  have hS : va_S A s.heap s.heap [] := va_S.rf
  have hl := lv_entry ([.ref a, .int e0, .int w0, .ref r]) (n := 4) (Nat.le_of_ble_eq_true rfl)
  rw [lg_entry_eq]
  generalize (lg_sl ([.ref a, .int e0, .int w0, .ref r]) ++ List.replicate (4 - (lg_sl ([.ref a, .int e0, .int w0, .ref r])).length) Slot.unset).toArray = ls at hl ⊢
  have hl : lv_has ls 4 [(0, .ref a), (1, .int e0), (2, .int w0), (3, .ref r)] := hl
  have hq0 := (List.getElem?_eq_some_iff.mp ha).1
  refine lv_aload_n hx hb dX0_init_0 rfl (lv_at hl 0 rfl) ?_
  refine W.objInit hx hb hown (hts _ km_198) (hts _ km_14) (hts _ km_15) rfl (by rw [hml]; exact hl.1) rfl dX0_init_1 (Nat.le_of_ble_eq_true rfl) (Nat.le_of_ble_eq_true rfl) ?_
  refine W.eq (g2 := F0 m 4 ls []) rfl ?_
  refine lv_aload_n hx hb dX0_init_4 rfl (lv_at hl 0 rfl) ?_
  refine lv_iload_n hx hb dX0_init_5 rfl (lv_at hl 1 rfl) ?_
  refine va_putF (D := (dC, dI)) (ci := 1) (v := .int e0) (ty := .int) (C := RX0) (T := TX0) (N := 3) hx hb hts inlX0 tyX0 tyX0_ok nmX0 hown hK hP hD hS q0 ha rfl 0 (by decide) (hts _ km_199) (fun _ h9 => h9) rfl hin rfl (by decide +kernel) rfl rfl (Nat.le_of_ble_eq_true rfl) dX0_init_6 (fun H locs hP hD hS => ?_)
  have hP : va_P (dC, dI) classes (ws.set q0 (a, .inr (1, [.int e0, .int 0, .null]))) H := hP
  have hD : va_D A (ws.set q0 (a, .inr (1, [.int e0, .int 0, .null]))) := hD
  have ha0 : (ws.set q0 (a, .inr (1, [.int e0, .int 0, .null])))[q0]? = some (a, .inr (1, [.int e0, .int 0, .null])) := List.getElem?_set_self hq0
  refine lv_aload_n hx hb dX0_init_9 rfl (lv_at hl 0 rfl) ?_
  refine lv_iload_n hx hb dX0_init_10 rfl (lv_at hl 2 rfl) ?_
  refine va_putF (D := (dC, dI)) (ci := 1) (v := .int w0) (ty := .int) (C := RX0) (T := TX0) (N := 3) hx hb hts inlX0 tyX0 tyX0_ok nmX0 hown hK hP hD hS q0 ha0 rfl 1 (by decide) (hts _ km_200) (fun _ h9 => h9) rfl hin rfl (by decide +kernel) rfl rfl (Nat.le_of_ble_eq_true rfl) dX0_init_11 (fun H locs hP hD hS => ?_)
  rw [List.set_set] at hP hD
  have hP : va_P (dC, dI) classes (ws.set q0 (a, .inr (1, [.int e0, .int w0, .null]))) H := hP
  have hD : va_D A (ws.set q0 (a, .inr (1, [.int e0, .int w0, .null]))) := hD
  have ha1 : (ws.set q0 (a, .inr (1, [.int e0, .int w0, .null])))[q0]? = some (a, .inr (1, [.int e0, .int w0, .null])) := List.getElem?_set_self hq0
  refine lv_aload_n hx hb dX0_init_14 rfl (lv_at hl 0 rfl) ?_
  refine lv_aload_n hx hb dX0_init_15 rfl (lv_at hl 3 rfl) ?_
  refine va_putF (D := (dC, dI)) (ci := 1) (v := .ref r) (ty := .object "FloorQueue$Arc") (C := RX0) (T := TX0) (N := 3) hx hb hts inlX0 tyX0 tyX0_ok nmX0 hown hK hP hD hS q0 ha1 rfl 2 (by decide) (hts _ km_201) (fun _ h9 => h9) rfl hin rfl (by decide +kernel) rfl rfl (Nat.le_of_ble_eq_true rfl) dX0_init_16 (fun H locs hP hD hS => ?_)
  rw [List.set_set] at hP hD
  have hP : va_P (dC, dI) classes (ws.set q0 (a, .inr (1, [.int e0, .int w0, .ref r]))) H := hP
  have hD : va_D A (ws.set q0 (a, .inr (1, [.int e0, .int w0, .ref r]))) := hD
  have ha2 : (ws.set q0 (a, .inr (1, [.int e0, .int w0, .ref r])))[q0]? = some (a, .inr (1, [.int e0, .int w0, .ref r])) := List.getElem?_set_self hq0
  exact fx_vret hx hb hr hlocks hK hS dX0_init_19 () trivial hP hD
theorem sp_arc0 (l : Launch) (dC : Nat → ClassId) (dI : Nat → Nat → Nat) (A : Nat → Prop) (cI cA cZ : ClassId) (ws : va_W) (q0 a : Nat) (e0 w0 : Int32) (r : Option Nat) (ha : ws[q0]? = some (a, .inr (1, [.int 0, .int 0, .null]))) : Met l yX0_init (Cond.code yX0_init cX0_init 4 none :: wsL_law) ({ frames := 1, cells := 0, slots := 0, locals := 14 } : Room) (va_Pc [.ref a, .int e0, .int w0, va_rf r] (fx_Pre (dC, dI) classes (fq_ty cI cA cZ) A ws)) (va_Qv (S := Unit) (fun _ => True) (fx_B (dC, dI) classes (fq_ty cI cA cZ) A (fun _ => ws.set q0 (a, .inr (1, [.int e0, .int w0, va_rf r])))) A) 0 0 A := by
  cases r with
  | none => exact sp_arcN l dC dI A cI cA cZ ws q0 a e0 w0 ha
  | some r => exact sp_arcS l dC dI A cI cA cZ ws q0 a e0 w0 r ha
set_option maxHeartbeats 4000000 in
set_option maxRecDepth 100000 in
theorem sp_arc (l : Launch) (dC : Nat → ClassId) (dI : Nat → Nat → Nat) (A : Nat → Prop) (cI cA cZ : ClassId) (rest : va_W) (z : Nat → Nat) (n : Nat) (hn : n ≤ 40) (ar gl : Int32) (fl pr pg ky ac : Int32) (K B M Ds Bf : Nat → Int32) (L : Nat → Option Nat) (xu xv w : Int32)  : Met l yX1_arc (Cond.code yX1_arc cX1_arc 4 (some .int) :: wsL_law) ({ frames := 2, cells := 1, slots := 3, locals := 43 } : Room) (va_Pc [.ref (z 0), .int xu, .int xv, .int w] (fx_Pre (dC, dI) classes (fq_ty cI cA cZ) A (wX z cI cA n ar gl fl pr pg ky ac K B M Ds Bf L ++ rest))) (va_Qi (S := (Option Nat)) (fun r o => r = fqarcR n ar gl ac xu xv w ∧ (r = 0 ↔ ∃ q, o = some q)) (fx_B (dC, dI) classes (fq_ty cI cA cZ) A (fun o => match o with | none => (wX z cI cA n ar gl fl pr pg ky ac K B M Ds Bf L ++ rest) | some q => wX z cI cA n ar gl fl pr pg ky (ac + 1) K B M (fqfill n (-1) Ds) (fqfill n (-1) Bf) (va_up L (fqn xu) (some q)) ++ (rest ++ [(q, .inr (1, [.int xv, .int w, va_rf (L (fqn xu))]))]))) A) 1 3 A := by
  refine Met.ofW (cc := cX1_arc) (maxL := 4) (ret := (some .int)) (by decide) rfl ?_
  intro p e s m args below meth c s₁ B0 hml hv
  obtain ⟨rfl, hA, hP, hK, hD, hN⟩ := hv
  have hx := B0.exec
  have hb := B0.bytes
  have hr := B0.returns
  have hts0 := atoms_spec (ws := (Cond.code yX1_arc cX1_arc 4 (some .int) :: wsL_law)) B0.pre
  have hts := fun w (h : w ∈ wsL_law) => hts0 w (List.mem_cons_of_mem _ h)
  have hown : s.vm.findClass RX1 = some m.cls := findClass_of_methodNamed B0.named
  have hlocks := B0.notSynchronized
  have hF : CallFix p m c cX1_arc 4 s ([.ref (z 0), .int xu, .int xv, .int w] : List Value).toArray wsL_law RX1 := ⟨hx, hb, hml, hown, hts⟩
  have hS : va_S A s.heap s.heap [] := va_S.rf
  have hl := lv_entry ([.ref (z 0), .int xu, .int xv, .int w]) (n := 4) (Nat.le_of_ble_eq_true rfl)
  rw [lg_entry_eq]
  generalize (lg_sl ([.ref (z 0), .int xu, .int xv, .int w]) ++ List.replicate (4 - (lg_sl ([.ref (z 0), .int xu, .int xv, .int w])).length) Slot.unset).toArray = ls at hl ⊢
  have hl : lv_has ls 4 [(0, .ref (z 0)), (1, .int xu), (2, .int xv), (3, .int w)] := hl
  have hn31 : n < 2 ^ 31 := by omega
  refine lv_aload_n hx hb dX1_arc_0 rfl (lv_at hl 0 rfl) ?_
  refine lv_iload_n hx hb dX1_arc_1 rfl (lv_at hl 1 rfl) ?_
  refine fx_Vs (rest := []) (sp_isItem l dC dI A cI cA cZ rest z n hn ar gl fl pr pg ky ac K B M Ds Bf L xu) hF (cw_RX1_56 hts ⟨Nat.le_of_ble_eq_true rfl, Nat.le_of_ble_eq_true rfl⟩) hA hS hP hK hD hN 0 0 rfl rfl rfl hl.1 rfl (Nat.le_of_ble_eq_true rfl) dX1_arc_2 ⟨Nat.le_of_ble_eq_true rfl, Nat.le_of_ble_eq_true rfl⟩ (fun r h => ?_)
  rcases h with ⟨rfl, ⟨j, hj, rfl⟩⟩ | ⟨rfl, h⟩
  · refine lv_if_eq (tgt := 16) hx hb dX1_arc_5 (by decide) (fun h9 => absurd h9 (by decide)) (fun _ => ?_)
    refine lv_aload_n hx hb dX1_arc_8 rfl (lv_at hl 0 rfl) ?_
    refine lv_iload_n hx hb dX1_arc_9 rfl (lv_at hl 2 rfl) ?_
    refine fx_Vs (rest := []) (sp_isItem l dC dI A cI cA cZ rest z n hn ar gl fl pr pg ky ac K B M Ds Bf L xv) hF (cw_RX1_56 hts ⟨Nat.le_of_ble_eq_true rfl, Nat.le_of_ble_eq_true rfl⟩) hA hS hP hK hD hN 0 0 rfl rfl rfl hl.1 rfl (Nat.le_of_ble_eq_true rfl) dX1_arc_10 ⟨Nat.le_of_ble_eq_true rfl, Nat.le_of_ble_eq_true rfl⟩ (fun r h => ?_)
    rcases h with ⟨rfl, ⟨k, hk, rfl⟩⟩ | ⟨rfl, h⟩
    · refine lv_if_ne (tgt := 18) hx hb dX1_arc_13 (by decide) (fun _ => ?_) (fun h9 => absurd h9 (by decide))
      refine lv_iload_n hx hb dX1_arc_18 rfl (lv_at hl 3 rfl) ?_
      refine lv_if_lt (tgt := 30) hx hb dX1_arc_19 (by decide) (fun c_19 => ?_) (fun c_19 => ?_)
      · refine lv_bipush (v := (-2)) hx hb dX1_arc_30 (by decide) ?_
        refine W.widen (k := 1) (n := 3) (by omega) (by omega) ?_
        exact fx_iret hx hb hr hlocks hK hS dX1_arc_32 none ⟨by unfold fqarcR; rw [fqat_some hj hn31, fqat_some hk hn31]; dsimp only; rw [if_pos c_19], ⟨fun h9 => absurd h9 (by decide), fun h9 => by obtain ⟨q, h9⟩ := h9; cases h9⟩⟩ hP hD
      · refine lv_iload_n hx hb dX1_arc_22 rfl (lv_at hl 3 rfl) ?_
        refine lv_aload_n hx hb dX1_arc_23 rfl (lv_at hl 0 rfl) ?_
        refine va_get (D := (dC, dI)) (ci := 0) (v := .int gl) (C := RX1) (T := TX1) (N := 14) hx hb hts inlX1 hown hK hP 0 rfl rfl 2 (by decide) (hts _ km_25) (fun _ h9 => h9) rfl dX1_arc_24 ?_
        refine lv_icmp_le (tgt := 33) hx hb dX1_arc_27 (by decide) (fun c_27 => ?_) (fun c_27 => ?_)
        · refine lv_aload_n hx hb dX1_arc_33 rfl (lv_at hl 0 rfl) ?_
          refine va_get (D := (dC, dI)) (ci := 0) (v := .int ac) (C := RX1) (T := TX1) (N := 14) hx hb hts inlX1 hown hK hP 0 rfl rfl 11 (by decide) (hts _ km_193) (fun _ h9 => h9) rfl dX1_arc_34 ?_
          refine lv_aload_n hx hb dX1_arc_37 rfl (lv_at hl 0 rfl) ?_
          refine va_get (D := (dC, dI)) (ci := 0) (v := .int ar) (C := RX1) (T := TX1) (N := 14) hx hb hts inlX1 hown hK hP 0 rfl rfl 1 (by decide) (hts _ km_24) (fun _ h9 => h9) rfl dX1_arc_38 ?_
          refine lv_icmp_lt (tgt := 47) hx hb dX1_arc_41 (by decide) (fun c_41 => ?_) (fun c_41 => ?_)
          · refine lv_aload_n hx hb dX1_arc_47 rfl (lv_at hl 0 rfl) ?_
            refine va_get (D := (dC, dI)) (ci := 0) (v := .ref (z 4)) (C := RX1) (T := TX1) (N := 14) hx hb hts inlX1 hown hK hP 0 rfl rfl 10 (by decide) (hts _ km_31) (fun _ h9 => h9) rfl dX1_arc_48 ?_
            refine lv_iload_n hx hb dX1_arc_51 rfl (lv_at hl 1 rfl) ?_
            refine va_new (ci := 1) (fs := [.int 0, .int 0, .null]) (C := RX0) (T := TX0) (N := 3) hx hb hts inlX0 tyX0 tyX0_ok hown (hts _ km_30) (hts _ km_194) (hts _ km_195) hK hP hD hS hA rfl (fun j9 hj9 => by rcases (show j9 = 0 ∨ j9 = 1 ∨ j9 = 2 by omega) with rfl | rfl | rfl <;> rfl) (Nat.le_of_ble_eq_true rfl) (Nat.le_of_ble_eq_true rfl) dX1_arc_52 (fun q H hP hD hS => ?_)
            refine lv_dup hx hb dX1_arc_55 rfl ?_
            refine lv_iload_n hx hb dX1_arc_56 rfl (lv_at hl 2 rfl) ?_
            refine lv_iload_n hx hb dX1_arc_57 rfl (lv_at hl 3 rfl) ?_
            refine lv_aload_n hx hb dX1_arc_58 rfl (lv_at hl 0 rfl) ?_
            refine va_get (D := (dC, dI)) (ci := 0) (v := .ref (z 4)) (C := RX1) (T := TX1) (N := 14) hx hb hts inlX1 hown hK hP 0 rfl rfl 10 (by decide) (hts _ km_31) (fun _ h9 => h9) rfl dX1_arc_59 ?_
            refine lv_iload_n hx hb dX1_arc_62 rfl (lv_at hl 1 rfl) ?_
            refine fx_aldq hx hb hK hP 4 1 rfl rfl j rfl hj hn31 dX1_arc_63 ?_
            have cwN := va_cnB (R := (headSpec (Cond.code yX1_arc cX1_arc 4 (some .int) :: wsL_law) ({ frames := 2, cells := 1, slots := 3, locals := 43 } : Room)).room) (rm := ({ frames := 1, cells := 0, slots := 0, locals := 14 } : Room)) 3 hts (km_in km_197) rfl rfl rfl hN.2.2.2.1 (hts _ km_195) (by decide +kernel) ⟨Nat.le_of_ble_eq_true rfl, Nat.le_of_ble_eq_true rfl⟩
            refine fx_IN (rest := [.ref q, .int (nI j), .ref (z 4)]) (sp_arc0 l dC dI A cI cA cZ ((wX z cI cA n ar gl fl pr pg ky ac K B M Ds Bf L ++ rest) ++ [(q, .inr (1, [.int 0, .int 0, .null]))]) (wX z cI cA n ar gl fl pr pg ky ac K B M Ds Bf L ++ rest).length q (nI k) w (L j) (fq_last _ _)) hF ⟨cwN, rfl, hts _ km_196⟩ hA hS hP hK hD hN rfl hl.1 rfl (Nat.le_of_ble_eq_true rfl) dX1_arc_64 ⟨Nat.le_of_ble_eq_true rfl, Nat.le_of_ble_eq_true rfl⟩ (fun u H locs _ hP hD hS => ?_)
            rw [fq_lastset] at hP hD
            refine fx_astq (r := (RX0, TX0, 3)) hx hb hK hP hD hS 4 1 (wX z cI cA n ar gl fl pr pg ky ac K B M Ds Bf L ++ rest).length 1 rfl rfl (fq_last _ _) rfl j rfl hj hn31 dX1_arc_67 (fun H locs hP hD hS => ?_)
            have hP : va_P (dC, dI) classes (wX z cI cA n ar gl fl pr pg ky ac K B M Ds Bf (va_up L j (some q)) ++ (rest ++ [(q, .inr (1, [.int (nI k), .int w, va_rf (L j)]))])) H := hP
            have hD : va_D A (wX z cI cA n ar gl fl pr pg ky ac K B M Ds Bf (va_up L j (some q)) ++ (rest ++ [(q, .inr (1, [.int (nI k), .int w, va_rf (L j)]))])) := hD
            refine lv_aload_n hx hb dX1_arc_68 rfl (lv_at hl 0 rfl) ?_
            refine lv_dup hx hb dX1_arc_69 rfl ?_
            refine va_get (D := (dC, dI)) (ci := 0) (v := .int ac) (C := RX1) (T := TX1) (N := 14) hx hb hts inlX1 hown hK hP 0 rfl rfl 11 (by decide) (hts _ km_193) (fun _ h9 => h9) rfl dX1_arc_70 ?_
            refine lv_iconst (v := 1) hx hb dX1_arc_73 (by decide) ?_
            refine lv_iadd hx hb dX1_arc_74 ?_
            refine va_put (D := (dC, dI)) (ci := 0) (v := .int (ac + 1)) (ty := .int) (C := RX1) (T := TX1) (N := 14) hx hb hts inlX1 tyX1 tyX1_ok nmX1 hown hK hP hD hS 0 rfl rfl 11 (by decide) (hts _ km_193) (fun _ h9 => h9) rfl (by decide +kernel) rfl rfl (Nat.le_of_ble_eq_true rfl) dX1_arc_75 (fun H locs hP hD hS => ?_)
            have hP : va_P (dC, dI) classes (wX z cI cA n ar gl fl pr pg ky (ac + 1) K B M Ds Bf (va_up L j (some q)) ++ (rest ++ [(q, .inr (1, [.int (nI k), .int w, va_rf (L j)]))])) H := hP
            have hD : va_D A (wX z cI cA n ar gl fl pr pg ky (ac + 1) K B M Ds Bf (va_up L j (some q)) ++ (rest ++ [(q, .inr (1, [.int (nI k), .int w, va_rf (L j)]))])) := hD
            refine lv_aload_n hx hb dX1_arc_78 rfl (lv_at hl 0 rfl) ?_
            refine fx_Vv (rest := []) (sp_forget l dC dI A cI cA cZ (rest ++ [(q, .inr (1, [.int (nI k), .int w, va_rf (L j)]))]) z n hn ar gl fl pr pg ky (ac + 1) K B M Ds Bf (va_up L j (some q))) hF (cw_RX1_102 hts ⟨Nat.le_of_ble_eq_true rfl, Nat.le_of_ble_eq_true rfl⟩) hA hS hP hK hD hN 0 0 rfl rfl rfl hl.1 rfl (Nat.le_of_ble_eq_true rfl) dX1_arc_79 ⟨Nat.le_of_ble_eq_true rfl, Nat.le_of_ble_eq_true rfl⟩ (fun u H locs h hP hD hS => ?_)
            subst h
            have hP : va_P (dC, dI) classes (wX z cI cA n ar gl fl pr pg ky (ac + 1) K B M (fqfill n (-1) Ds) (fqfill n (-1) Bf) (va_up L j (some q)) ++ (rest ++ [(q, .inr (1, [.int (nI k), .int w, va_rf (L j)]))])) H := hP
            have hD : va_D A (wX z cI cA n ar gl fl pr pg ky (ac + 1) K B M (fqfill n (-1) Ds) (fqfill n (-1) Bf) (va_up L j (some q)) ++ (rest ++ [(q, .inr (1, [.int (nI k), .int w, va_rf (L j)]))])) := hD
            refine lv_iconst (v := 0) hx hb dX1_arc_82 (by decide) ?_
            exact fx_iret hx hb hr hlocks hK hS dX1_arc_83 (some q) ⟨by unfold fqarcR; rw [fqat_some hj hn31, fqat_some hk hn31]; dsimp only; rw [if_neg c_19, if_pos c_27, if_pos c_41], ⟨fun _ => ⟨q, rfl⟩, fun _ => rfl⟩⟩ (by rw [fqn_nI (by omega)]; exact hP) (by rw [fqn_nI (by omega)]; exact hD)
          · refine lv_bipush (v := (-3)) hx hb dX1_arc_44 (by decide) ?_
            refine W.widen (k := 1) (n := 3) (by omega) (by omega) ?_
            exact fx_iret hx hb hr hlocks hK hS dX1_arc_46 none ⟨by unfold fqarcR; rw [fqat_some hj hn31, fqat_some hk hn31]; dsimp only; rw [if_neg c_19, if_pos c_27, if_neg c_41], ⟨fun h9 => absurd h9 (by decide), fun h9 => by obtain ⟨q, h9⟩ := h9; cases h9⟩⟩ hP hD
        · refine lv_bipush (v := (-2)) hx hb dX1_arc_30 (by decide) ?_
          refine W.widen (k := 1) (n := 3) (by omega) (by omega) ?_
          exact fx_iret hx hb hr hlocks hK hS dX1_arc_32 none ⟨by unfold fqarcR; rw [fqat_some hj hn31, fqat_some hk hn31]; dsimp only; rw [if_neg c_19, if_neg c_27], ⟨fun h9 => absurd h9 (by decide), fun h9 => by obtain ⟨q, h9⟩ := h9; cases h9⟩⟩ hP hD
    · refine lv_if_ne (tgt := 18) hx hb dX1_arc_13 (by decide) (fun h9 => absurd h9 (by decide)) (fun _ => ?_)
      refine lv_iconst (v := (-1)) hx hb dX1_arc_16 (by decide) ?_
      refine W.widen (k := 1) (n := 3) (by omega) (by omega) ?_
      exact fx_iret hx hb hr hlocks hK hS dX1_arc_17 none ⟨by unfold fqarcR; rw [fqat_some hj hn31, fqat_none hn31 h], ⟨fun h9 => absurd h9 (by decide), fun h9 => by obtain ⟨q, h9⟩ := h9; cases h9⟩⟩ hP hD
  · refine lv_if_eq (tgt := 16) hx hb dX1_arc_5 (by decide) (fun _ => ?_) (fun h9 => absurd h9 (by decide))
    refine lv_iconst (v := (-1)) hx hb dX1_arc_16 (by decide) ?_
    refine W.widen (k := 1) (n := 3) (by omega) (by omega) ?_
    exact fx_iret hx hb hr hlocks hK hS dX1_arc_17 none ⟨by unfold fqarcR; rw [fqat_none hn31 h], ⟨fun h9 => absurd h9 (by decide), fun h9 => by obtain ⟨q, h9⟩ := h9; cases h9⟩⟩ hP hD
set_option maxHeartbeats 4000000 in
set_option maxRecDepth 100000 in
theorem sp_leads (l : Launch) (dC : Nat → ClassId) (dI : Nat → Nat → Nat) (A : Nat → Prop) (cI cA cZ : ClassId) (rest : va_W) (z : Nat → Nat) (n : Nat) (hn : n ≤ 40) (ar gl : Int32) (fl pr pg ky ac : Int32) (K B M Ds Bf : Nat → Int32) (L : Nat → Option Nat) (j : Nat) (t : List (Int32 × Int32)) (hj : j < n) (hch : fqch rest (L j) t) (hen : fqends n t) : Met l yX1_leadsToUntaken (Cond.code yX1_leadsToUntaken cX1_leadsToUntaken 3 (some .boolean) :: wsL_law) ({ frames := 0, cells := 0, slots := 0, locals := 0 } : Room) (va_Pc [.ref (z 0), .int (nI j)] (fx_Pre (dC, dI) classes (fq_ty cI cA cZ) A (wX z cI cA n ar gl fl pr pg ky ac K B M Ds Bf L ++ rest))) (vp_Si (fun r => (r = 1 ∧ fqtoo1 Ds t = true) ∨ (r = 0 ∧ fqtoo1 Ds t = false))) 0 0 (fun _ => False) := by
  refine Met.ofW (cc := cX1_leadsToUntaken) (maxL := 3) (ret := (some .boolean)) (by decide) rfl ?_
  intro p e s m args below meth c s₁ B0 hml hv
  obtain ⟨rfl, hA, hP, hK, hD, hN⟩ := hv
  have hx := B0.exec
  have hb := B0.bytes
  have hr := B0.returns
  have hts0 := atoms_spec (ws := (Cond.code yX1_leadsToUntaken cX1_leadsToUntaken 3 (some .boolean) :: wsL_law)) B0.pre
  have hts := fun w (h : w ∈ wsL_law) => hts0 w (List.mem_cons_of_mem _ h)
  have hown : s.vm.findClass RX1 = some m.cls := findClass_of_methodNamed B0.named
  have hlocks := B0.notSynchronized
  have hF : CallFix p m c cX1_leadsToUntaken 3 s ([.ref (z 0), .int (nI j)] : List Value).toArray wsL_law RX1 := ⟨hx, hb, hml, hown, hts⟩
  have hS : va_S A s.heap s.heap [] := va_S.rf
  have hl := lv_entry ([.ref (z 0), .int (nI j)]) (n := 3) (Nat.le_of_ble_eq_true rfl)
  rw [lg_entry_eq]
  generalize (lg_sl ([.ref (z 0), .int (nI j)]) ++ List.replicate (3 - (lg_sl ([.ref (z 0), .int (nI j)])).length) Slot.unset).toArray = ls at hl ⊢
  have hl : lv_has ls 3 [(0, .ref (z 0)), (1, .int (nI j))] := hl
  have hn31 : n < 2 ^ 31 := by omega
  have K0 : ∀ (t' : List (Int32 × Int32)) (o : Option Nat) (ls : Array Slot), fqch rest o t' → fqends n t' → fqtoo1 Ds t' = fqtoo1 Ds t → lv_has ls 3 [(0, .ref (z 0)), (1, .int (nI j)), (2, va_rf o)] → W p l e (headSpec (Cond.code yX1_leadsToUntaken cX1_leadsToUntaken 3 (some .boolean) :: wsL_law) ({ frames := 0, cells := 0, slots := 0, locals := 0 } : Room)).room s m ([.ref (z 0), .int (nI j)] : List Value).toArray below meth c s.heap [] 0 0 (MQ below (vp_Si (fun r => (r = 1 ∧ fqtoo1 Ds t = true) ∨ (r = 0 ∧ fqtoo1 Ds t = false))) ([.ref (z 0), .int (nI j)] : List Value).toArray s 0 0 (fun _ => False)) (F0 m 7 ls []) := by
    intro t'
    induction t' with
    | nil =>
      intro o ls hc he hq hl
      have hc : o = none := hc
      subst hc
      have hl : lv_has ls 3 [(0, .ref (z 0)), (1, .int (nI j)), (2, .null)] := hl
      refine lv_aload_nN hx hb dX1_leadsToUntaken_7 rfl (lv_at hl 2 rfl) ?_
      refine lv_ifnullN (tgt := 34) hx hb dX1_leadsToUntaken_8 (by decide) ?_
      refine lv_iconst (v := 0) hx hb dX1_leadsToUntaken_34 (by decide) ?_
      exact fx_bret hx hb hr (Or.inl rfl) hlocks dX1_leadsToUntaken_35 (Or.inr ⟨rfl, hq.symm⟩)
    | cons x r ih =>
      obtain ⟨e0, w0⟩ := x
      rintro o ls ⟨a, nx, rfl, ⟨k9, hk9⟩, hc⟩ he hq hl
      obtain ⟨e1, he1, hee⟩ := he _ List.mem_cons_self
      have hee : e0 = nI e1 := hee
      subst hee
      have hl : lv_has ls 3 [(0, .ref (z 0)), (1, .int (nI j)), (2, .ref a)] := hl
      have hq1 : fqtoo1 Ds ((nI e1, w0) :: r) = (decide (Ds e1 = -1) || fqtoo1 Ds r) := by show (decide (Ds (fqn (nI e1)) = -1) || _) = _; rw [fqn_nI (by omega)]; rfl
      refine lv_aload_n hx hb dX1_leadsToUntaken_7 rfl (lv_at hl 2 rfl) ?_
      refine lv_ifnull hx hb dX1_leadsToUntaken_8 ?_
      refine lv_aload_n hx hb dX1_leadsToUntaken_11 rfl (lv_at hl 0 rfl) ?_
      refine va_get (D := (dC, dI)) (ci := 0) (v := .ref (z 5)) (C := RX1) (T := TX1) (N := 14) hx hb hts inlX1 hown hK hP 0 rfl rfl 12 (by decide) (hts _ km_32) (fun _ h9 => h9) rfl dX1_leadsToUntaken_12 ?_
      refine lv_aload_n hx hb dX1_leadsToUntaken_15 rfl (lv_at hl 2 rfl) ?_
      refine va_getN (D := (dC, dI)) (ci := 1) (v := .int (nI e1)) (C := RX0) (T := TX0) (N := 3) hx hb hts inlX0 hown hK hP (k9 + 7) hk9 rfl 0 (by decide) (hN.1.use rfl) (fun _ h9 => h9) rfl dX1_leadsToUntaken_16 ?_
      refine fx_ald hx hb hK hP 5 0 rfl rfl e1 rfl he1 hn31 dX1_leadsToUntaken_19 ?_
      refine lv_iconst (v := (-1)) hx hb dX1_leadsToUntaken_20 (by decide) ?_
      refine lv_icmp_ne (tgt := 26) hx hb dX1_leadsToUntaken_21 (by decide) (fun c_21 => ?_) (fun c_21 => ?_)
      · refine lv_aload_n hx hb dX1_leadsToUntaken_26 rfl (lv_at hl 2 rfl) ?_
        refine va_getN (D := (dC, dI)) (ci := 1) (v := va_rf nx) (C := RX0) (T := TX0) (N := 3) hx hb hts inlX0 hown hK hP (k9 + 7) hk9 rfl 2 (by decide) (hN.2.2.1.use rfl) (fun _ h9 => h9) rfl dX1_leadsToUntaken_27 ?_
        refine fx_astore_nq (lv' := [(2, va_rf nx), (0, .ref (z 0)), (1, .int (nI j))]) hx hb dX1_leadsToUntaken_30 rfl hl (by decide) rfl (fun ls hl => ?_)
        refine lv_goto (tgt := 7) hx hb dX1_leadsToUntaken_31 (by decide) ?_
        exact ih nx ls hc (fun a h => he a (List.mem_cons_of_mem _ h)) (by rw [← hq, hq1]; simp [c_21]) (lv_sub hl [1, 2, 0] rfl)
      · have c_21 : Ds e1 = -1 := c_21
        refine lv_iconst (v := 1) hx hb dX1_leadsToUntaken_24 (by decide) ?_
        exact fx_bret hx hb hr (Or.inr rfl) hlocks dX1_leadsToUntaken_25 (Or.inl ⟨rfl, by rw [← hq, hq1]; simp [c_21]⟩)
  refine lv_aload_n hx hb dX1_leadsToUntaken_0 rfl (lv_at hl 0 rfl) ?_
  refine va_get (D := (dC, dI)) (ci := 0) (v := .ref (z 4)) (C := RX1) (T := TX1) (N := 14) hx hb hts inlX1 hown hK hP 0 rfl rfl 10 (by decide) (hts _ km_31) (fun _ h9 => h9) rfl dX1_leadsToUntaken_1 ?_
  refine lv_iload_n hx hb dX1_leadsToUntaken_4 rfl (lv_at hl 1 rfl) ?_
  refine fx_aldq hx hb hK hP 4 1 rfl rfl j rfl hj hn31 dX1_leadsToUntaken_5 ?_
  refine fx_astore_nq (lv' := [(2, va_rf (L j)), (0, .ref (z 0)), (1, .int (nI j))]) hx hb dX1_leadsToUntaken_6 rfl hl (by decide) rfl (fun ls hl => ?_)
  exact K0 t (L j) ls hch hen rfl (lv_sub hl [1, 2, 0] rfl)
set_option maxHeartbeats 4000000 in
set_option maxRecDepth 100000 in
theorem sp_too (l : Launch) (dC : Nat → ClassId) (dI : Nat → Nat → Nat) (A : Nat → Prop) (cI cA cZ : ClassId) (rest : va_W) (z : Nat → Nat) (n : Nat) (hn : n ≤ 40) (ar gl : Int32) (fl pr pg ky ac : Int32) (K B M Ds Bf : Nat → Int32) (L : Nat → Option Nat) (as : Nat → List (Int32 × Int32)) (hch : ∀ i, i < n → fqch rest (L i) (as i) ∧ fqends n (as i)) : Met l yX1_isSomeWayTooLong (Cond.code yX1_isSomeWayTooLong cX1_isSomeWayTooLong 2 (some .boolean) :: wsL_law) ({ frames := 1, cells := 0, slots := 0, locals := 22 } : Room) (va_Pc [.ref (z 0)] (fx_Pre (dC, dI) classes (fq_ty cI cA cZ) A (wX z cI cA n ar gl fl pr pg ky ac K B M Ds Bf L ++ rest))) (vp_Si (fun r => (r = 1 ∧ fqtoo n as Ds = false) ∨ (r = 0 ∧ fqtoo n as Ds = true))) 0 0 (fun _ => False) := by
  refine Met.ofW (cc := cX1_isSomeWayTooLong) (maxL := 2) (ret := (some .boolean)) (by decide) rfl ?_
  intro p e s m args below meth c s₁ B0 hml hv
  obtain ⟨rfl, hA, hP, hK, hD, hN⟩ := hv
  have hx := B0.exec
  have hb := B0.bytes
  have hr := B0.returns
  have hts0 := atoms_spec (ws := (Cond.code yX1_isSomeWayTooLong cX1_isSomeWayTooLong 2 (some .boolean) :: wsL_law)) B0.pre
  have hts := fun w (h : w ∈ wsL_law) => hts0 w (List.mem_cons_of_mem _ h)
  have hown : s.vm.findClass RX1 = some m.cls := findClass_of_methodNamed B0.named
  have hlocks := B0.notSynchronized
  have hF : CallFix p m c cX1_isSomeWayTooLong 2 s ([.ref (z 0)] : List Value).toArray wsL_law RX1 := ⟨hx, hb, hml, hown, hts⟩
  have hS : va_S A s.heap s.heap [] := va_S.rf
  have hl := lv_entry ([.ref (z 0)]) (n := 2) (Nat.le_of_ble_eq_true rfl)
  rw [lg_entry_eq]
  generalize (lg_sl ([.ref (z 0)]) ++ List.replicate (2 - (lg_sl ([.ref (z 0)])).length) Slot.unset).toArray = ls at hl ⊢
  have hl : lv_has ls 2 [(0, .ref (z 0))] := hl
  have hn31 : n < 2 ^ 31 := by omega
  have K0 : ∀ (d i : Nat) (ls : Array Slot), d + i = n → (fqall (fun i => decide (Ds i = -1) || !(fqtoo1 Ds (as i))) d i = fqtoo n as Ds) → lv_has ls 2 [(0, .ref (z 0)), (1, .int (nI i))] → W p l e (headSpec (Cond.code yX1_isSomeWayTooLong cX1_isSomeWayTooLong 2 (some .boolean) :: wsL_law) ({ frames := 1, cells := 0, slots := 0, locals := 22 } : Room)).room s m ([.ref (z 0)] : List Value).toArray below meth c s.heap [] 0 0 (MQ below (vp_Si (fun r => (r = 1 ∧ fqtoo n as Ds = false) ∨ (r = 0 ∧ fqtoo n as Ds = true))) ([.ref (z 0)] : List Value).toArray s 0 0 (fun _ => False)) (F0 m 2 ls []) := by
    intro d
    induction d with
    | zero =>
      intro i  ls hdi hq hl
      have e0 : i = n := by omega
      refine lv_iload_n hx hb dX1_isSomeWayTooLong_2 rfl (lv_at hl 1 rfl) ?_
      refine lv_aload_n hx hb dX1_isSomeWayTooLong_3 rfl (lv_at hl 0 rfl) ?_
      refine va_get (D := (dC, dI)) (ci := 0) (v := .int (nI n)) (C := RX1) (T := TX1) (N := 14) hx hb hts inlX1 hown hK hP 0 rfl rfl 0 (by decide) (hts _ km_23) (fun _ h9 => h9) rfl dX1_isSomeWayTooLong_4 ?_
      refine lv_icmp_ge (tgt := 36) hx hb dX1_isSomeWayTooLong_7 (by decide) (fun c_7 => ?_) (fun c_7 => ?_)
      · refine lv_iconst (v := 0) hx hb dX1_isSomeWayTooLong_36 (by decide) ?_
        exact fx_bret hx hb hr (Or.inl rfl) hlocks dX1_isSomeWayTooLong_37 (Or.inr ⟨rfl, hq.symm⟩)
      · exact absurd (nI_le (by omega) (by omega)) c_7
    | succ d ih =>
      intro i  ls hdi hq hl
      have hi : i < n := by omega
      rw [fqall_s] at hq
      have hq : ((decide (Ds i = -1) || !(fqtoo1 Ds (as i))) && fqall (fun i => decide (Ds i = -1) || !(fqtoo1 Ds (as i))) d (i + 1)) = fqtoo n as Ds := hq
      refine lv_iload_n hx hb dX1_isSomeWayTooLong_2 rfl (lv_at hl 1 rfl) ?_
      refine lv_aload_n hx hb dX1_isSomeWayTooLong_3 rfl (lv_at hl 0 rfl) ?_
      refine va_get (D := (dC, dI)) (ci := 0) (v := .int (nI n)) (C := RX1) (T := TX1) (N := 14) hx hb hts inlX1 hown hK hP 0 rfl rfl 0 (by decide) (hts _ km_23) (fun _ h9 => h9) rfl dX1_isSomeWayTooLong_4 ?_
      refine lv_icmp_ge (tgt := 36) hx hb dX1_isSomeWayTooLong_7 (by decide) (fun c_7 => ?_) (fun c_7 => ?_)
      · exact absurd c_7 (nI_ge hi hn31)
      · refine lv_aload_n hx hb dX1_isSomeWayTooLong_10 rfl (lv_at hl 0 rfl) ?_
        refine va_get (D := (dC, dI)) (ci := 0) (v := .ref (z 5)) (C := RX1) (T := TX1) (N := 14) hx hb hts inlX1 hown hK hP 0 rfl rfl 12 (by decide) (hts _ km_32) (fun _ h9 => h9) rfl dX1_isSomeWayTooLong_11 ?_
        refine lv_iload_n hx hb dX1_isSomeWayTooLong_14 rfl (lv_at hl 1 rfl) ?_
        refine fx_ald hx hb hK hP 5 0 rfl rfl i rfl hi hn31 dX1_isSomeWayTooLong_15 ?_
        refine lv_iconst (v := (-1)) hx hb dX1_isSomeWayTooLong_16 (by decide) ?_
        refine lv_icmp_eq (tgt := 30) hx hb dX1_isSomeWayTooLong_17 (by decide) (fun c_17 => ?_) (fun c_17 => ?_)
        · refine lv_iinc (v := nI (i + 1)) (lv' := [(1, .int (nI (i + 1))), (0, .ref (z 0))]) hx hb dX1_isSomeWayTooLong_30 hl (k := 1) rfl (nI_1 i) (by decide) rfl (fun ls hl => ?_)
          refine lv_goto (tgt := 2) hx hb dX1_isSomeWayTooLong_33 (by decide) ?_
          exact ih (i + 1) ls (by omega) (by rw [← hq]; simp [c_17]) (lv_sub hl [1, 0] rfl)
        · refine lv_aload_n hx hb dX1_isSomeWayTooLong_20 rfl (lv_at hl 0 rfl) ?_
          refine lv_iload_n hx hb dX1_isSomeWayTooLong_21 rfl (lv_at hl 1 rfl) ?_
          refine fx_Vs (rest := []) (sp_leads l dC dI A cI cA cZ rest z n hn ar gl fl pr pg ky ac K B M Ds Bf L i (as i) hi (hch i hi).1 (hch i hi).2) hF (cw_RX1_153 hts ⟨Nat.le_of_ble_eq_true rfl, Nat.le_of_ble_eq_true rfl⟩) hA hS hP hK hD hN 0 0 rfl rfl rfl hl.1 rfl (Nat.le_of_ble_eq_true rfl) dX1_isSomeWayTooLong_22 ⟨Nat.le_of_ble_eq_true rfl, Nat.le_of_ble_eq_true rfl⟩ (fun r h => ?_)
          rcases h with ⟨rfl, h9⟩ | ⟨rfl, h9⟩
          · refine lv_if_eq (tgt := 30) hx hb dX1_isSomeWayTooLong_25 (by decide) (fun h9 => absurd h9 (by decide)) (fun _ => ?_)
            refine lv_iconst (v := 1) hx hb dX1_isSomeWayTooLong_28 (by decide) ?_
            exact fx_bret hx hb hr (Or.inr rfl) hlocks dX1_isSomeWayTooLong_29 (Or.inl ⟨rfl, by rw [← hq]; simp [c_17, h9]⟩)
          · refine lv_if_eq (tgt := 30) hx hb dX1_isSomeWayTooLong_25 (by decide) (fun _ => ?_) (fun h9 => absurd h9 (by decide))
            refine lv_iinc (v := nI (i + 1)) (lv' := [(1, .int (nI (i + 1))), (0, .ref (z 0))]) hx hb dX1_isSomeWayTooLong_30 hl (k := 1) rfl (nI_1 i) (by decide) rfl (fun ls hl => ?_)
            refine lv_goto (tgt := 2) hx hb dX1_isSomeWayTooLong_33 (by decide) ?_
            exact ih (i + 1) ls (by omega) (by rw [← hq]; simp [h9]) (lv_sub hl [1, 0] rfl)
  refine lv_iconst (v := 0) hx hb dX1_isSomeWayTooLong_0 (by decide) ?_
  refine lv_istore_n (lv' := [(1, .int 0), (0, .ref (z 0))]) hx hb dX1_isSomeWayTooLong_1 rfl hl (by decide) rfl (fun ls hl => ?_)
  exact K0 n 0 ls rfl rfl (lv_sub hl [1, 0] rfl)
end
section
theorem cw_RX1_150 {R : Room} {s : State} {args : Array Value} {rm : Room} (hts : ∀ w ∈ wsL_law, w.before args s = true) (hR : rm.frames + 1 ≤ R.frames ∧ 8 + (3 + 11) + rm.locals ≤ R.locals) : CallW R s args RX1 RX1 150 yX1_lower cX1_lower 3 (some .int) (Cond.code yX1_lower cX1_lower 3 (some .int) :: wsL_law) rm rm.cells rm.slots 2 := cwV 2 hts (km_app (km_four km_231 km_103 km_104 km_2) (km_in km_105)) rfl rfl rfl (by decide +kernel) hR
theorem cw_RX1_108 {R : Room} {s : State} {args : Array Value} {rm : Room} (hts : ∀ w ∈ wsL_law, w.before args s = true) (hR : rm.frames + 1 ≤ R.frames ∧ 8 + (3 + 11) + rm.locals ≤ R.locals) : CallW R s args RX1 RX1 108 yX1_push cX1_push 3 (some .int) (Cond.code yX1_push cX1_push 3 (some .int) :: wsL_law) rm rm.cells rm.slots 2 := cwV 2 hts (km_app (km_four km_220 km_60 km_61 km_2) (km_in km_62)) rfl rfl rfl (by decide +kernel) hR
theorem cw_RX1_131 {R : Room} {s : State} {args : Array Value} {rm : Room} (hts : ∀ w ∈ wsL_law, w.before args s = true) (hR : rm.frames + 1 ≤ R.frames ∧ 8 + (3 + 11) + rm.locals ≤ R.locals) : CallW R s args RX1 RX1 131 yX1_pop cX1_pop 3 (some .int) (Cond.code yX1_pop cX1_pop 3 (some .int) :: wsL_law) rm rm.cells rm.slots 0 := cwV 0 hts (km_app (km_four km_225 km_118 km_119 km_2) (km_in km_120)) rfl rfl rfl (by decide +kernel) hR
theorem cw_RX1_134 {R : Room} {s : State} {args : Array Value} {rm : Room} (hts : ∀ w ∈ wsL_law, w.before args s = true) (hR : rm.frames + 1 ≤ R.frames ∧ 8 + (6 + 11) + rm.locals ≤ R.locals) : CallW R s args RX1 RX1 134 yX1_tryWay cX1_tryWay 6 none (Cond.code yX1_tryWay cX1_tryWay 6 none :: wsL_law) rm rm.cells rm.slots 2 := cwV 2 hts (km_app (km_four km_226 km_227 km_228 km_2) (km_in km_229)) rfl rfl rfl (by decide +kernel) hR
theorem cw_RX1_105 {R : Room} {s : State} {args : Array Value} {rm : Room} (hts : ∀ w ∈ wsL_law, w.before args s = true) (hR : rm.frames + 1 ≤ R.frames ∧ 8 + (1 + 11) + rm.locals ≤ R.locals) : CallW R s args RX1 RX1 105 yX1_emptyQueue cX1_emptyQueue 1 none (Cond.code yX1_emptyQueue cX1_emptyQueue 1 none :: wsL_law) rm rm.cells rm.slots 0 := cwV 0 hts (km_app (km_four km_216 km_217 km_218 km_2) (km_in km_219)) rfl rfl rfl (by decide +kernel) hR
theorem cw_RX1_114 {R : Room} {s : State} {args : Array Value} {rm : Room} (hts : ∀ w ∈ wsL_law, w.before args s = true) (hR : rm.frames + 1 ≤ R.frames ∧ 8 + (2 + 11) + rm.locals ≤ R.locals) : CallW R s args RX1 RX1 114 yX1_isSomeWayTooLong cX1_isSomeWayTooLong 2 (some .boolean) (Cond.code yX1_isSomeWayTooLong cX1_isSomeWayTooLong 2 (some .boolean) :: wsL_law) rm rm.cells rm.slots 0 := cwV 0 hts (km_app (km_four km_232 km_233 km_234 km_2) (km_in km_235)) rfl rfl rfl (by decide +kernel) hR
theorem cw_RX1_111 {R : Room} {s : State} {args : Array Value} {rm : Room} (hts : ∀ w ∈ wsL_law, w.before args s = true) (hR : rm.frames + 1 ≤ R.frames ∧ 8 + (3 + 11) + rm.locals ≤ R.locals) : CallW R s args RX1 RX1 111 yX1_takeNext cX1_takeNext 3 none (Cond.code yX1_takeNext cX1_takeNext 3 none :: wsL_law) rm rm.cells rm.slots 0 := cwV 0 hts (km_app (km_four km_221 km_222 km_223 km_2) (km_in km_224)) rfl rfl rfl (by decide +kernel) hR
theorem cw_RX1_118 {R : Room} {s : State} {args : Array Value} {rm : Room} (hts : ∀ w ∈ wsL_law, w.before args s = true) (hR : rm.frames + 1 ≤ R.frames ∧ 8 + (2 + 11) + rm.locals ≤ R.locals) : CallW R s args RX1 RX1 118 yX1_isWhereItBelongs cX1_isWhereItBelongs 2 (some .boolean) (Cond.code yX1_isWhereItBelongs cX1_isWhereItBelongs 2 (some .boolean) :: wsL_law) rm rm.cells rm.slots 1 := cwV 1 hts (km_app (km_four km_279 km_280 km_281 km_2) (km_in km_282)) rfl rfl rfl (by decide +kernel) hR
set_option maxHeartbeats 4000000 in
set_option maxRecDepth 100000 in
theorem sp_try (l : Launch) (dC : Nat → ClassId) (dI : Nat → Nat → Nat) (A : Nat → Prop) (cI cA cZ : ClassId) (rest : va_W) (z : Nat → Nat) (n : Nat) (hn : n ≤ 40) (ar gl : Int32) (fl pr pg ky ac : Int32) (K B M Ds Bf : Nat → Int32) (L : Nat → Option Nat) (t a k9 e1 : Nat) (w0 : Int32) (nx : Option Nat) (ht : t < n) (he1 : e1 < n) (hk9 : rest[k9]? = some (a, .inr (1, [.int (nI e1), .int w0, va_rf nx]))) (hs : fqS n (fl, pr, pg, ky, K, B, M)) : Met l yX1_tryWay (Cond.code yX1_tryWay cX1_tryWay 6 none :: wsL_law) ({ frames := 4, cells := 0, slots := 0, locals := 86 } : Room) (va_Pc [.ref (z 0), .int (nI t), .ref a] (fx_Pre (dC, dI) classes (fq_ty cI cA cZ) A (wX z cI cA n ar gl fl pr pg ky ac K B M Ds Bf L ++ rest))) (va_Qv (S := fqR) (fun u => u = fqtry n ((fl, pr, pg, ky, K, B, M), Ds, Bf) t (nI e1) w0) (fx_B (dC, dI) classes (fq_ty cI cA cZ) A (fun u : fqR => wX z cI cA n ar gl u.1.1 u.1.2.1 u.1.2.2.1 u.1.2.2.2.1 ac u.1.2.2.2.2.1 u.1.2.2.2.2.2.1 u.1.2.2.2.2.2.2 u.2.1 u.2.2 L ++ rest)) A) 0 0 A := by
  refine Met.ofW (cc := cX1_tryWay) (maxL := 6) (ret := none) (by decide) rfl ?_
  intro p e s m args below meth c s₁ B0 hml hv
  obtain ⟨rfl, hA, hP, hK, hD, hN⟩ := hv
  have hx := B0.exec
  have hb := B0.bytes
  have hr := B0.returns
  have hts0 := atoms_spec (ws := (Cond.code yX1_tryWay cX1_tryWay 6 none :: wsL_law)) B0.pre
  have hts := fun w (h : w ∈ wsL_law) => hts0 w (List.mem_cons_of_mem _ h)
  have hown : s.vm.findClass RX1 = some m.cls := findClass_of_methodNamed B0.named
  have hlocks := B0.notSynchronized
  have hF : CallFix p m c cX1_tryWay 6 s ([.ref (z 0), .int (nI t), .ref a] : List Value).toArray wsL_law RX1 := ⟨hx, hb, hml, hown, hts⟩
  have hS : va_S A s.heap s.heap [] := va_S.rf
  have hl := lv_entry ([.ref (z 0), .int (nI t), .ref a]) (n := 6) (Nat.le_of_ble_eq_true rfl)
  rw [lg_entry_eq]
  generalize (lg_sl ([.ref (z 0), .int (nI t), .ref a]) ++ List.replicate (6 - (lg_sl ([.ref (z 0), .int (nI t), .ref a])).length) Slot.unset).toArray = ls at hl ⊢
  have hl : lv_has ls 6 [(0, .ref (z 0)), (1, .int (nI t)), (2, .ref a)] := hl
  have hn31 : n < 2 ^ 31 := by omega
  refine lv_aload_n hx hb dX1_tryWay_0 rfl (lv_at hl 2 rfl) ?_
  refine va_getN (D := (dC, dI)) (ci := 1) (v := .int (nI e1)) (C := RX0) (T := TX0) (N := 3) hx hb hts inlX0 hown hK hP (k9 + 7) hk9 rfl 0 (by decide) (hN.1.use rfl) (fun _ h9 => h9) rfl dX1_tryWay_1 ?_
  refine lv_istore_n (lv' := [(3, .int (nI e1)), (0, .ref (z 0)), (1, .int (nI t)), (2, .ref a)]) hx hb dX1_tryWay_4 rfl hl (by decide) rfl (fun ls hl => ?_)
  refine lv_aload_n hx hb dX1_tryWay_5 rfl (lv_at hl 1 rfl) ?_
  refine va_get (D := (dC, dI)) (ci := 0) (v := .ref (z 5)) (C := RX1) (T := TX1) (N := 14) hx hb hts inlX1 hown hK hP 0 rfl rfl 12 (by decide) (hts _ km_32) (fun _ h9 => h9) rfl dX1_tryWay_6 ?_
  refine lv_iload_n hx hb dX1_tryWay_9 rfl (lv_at hl 2 rfl) ?_
  refine fx_ald hx hb hK hP 5 0 rfl rfl t rfl ht hn31 dX1_tryWay_10 ?_
  refine lv_i2l hx hb dX1_tryWay_11 rfl ?_
  refine lv_aload_n hx hb dX1_tryWay_12 rfl (lv_at hl 3 rfl) ?_
  refine va_getN (D := (dC, dI)) (ci := 1) (v := .int w0) (C := RX0) (T := TX0) (N := 3) hx hb hts inlX0 hown hK hP (k9 + 7) hk9 rfl 1 (by decide) (hN.2.1.use rfl) (fun _ h9 => h9) rfl dX1_tryWay_13 ?_
  refine lv_i2l hx hb dX1_tryWay_16 rfl ?_
  refine lv_ladd hx hb dX1_tryWay_17 ?_
  refine lv_lstore (lv' := [(4, .long (((Ds t).toInt64) + w0.toInt64)), (3, .int (nI e1)), (0, .ref (z 0)), (1, .int (nI t)), (2, .ref a)]) hx hb dX1_tryWay_18 hl (by decide) rfl (fun ls hl => ?_)
  refine lv_aload_n hx hb dX1_tryWay_20 rfl (lv_at hl 2 rfl) ?_
  refine va_get (D := (dC, dI)) (ci := 0) (v := .ref (z 5)) (C := RX1) (T := TX1) (N := 14) hx hb hts inlX1 hown hK hP 0 rfl rfl 12 (by decide) (hts _ km_32) (fun _ h9 => h9) rfl dX1_tryWay_21 ?_
  refine lv_iload_n hx hb dX1_tryWay_24 rfl (lv_at hl 1 rfl) ?_
  refine fx_ald hx hb hK hP 5 0 rfl rfl e1 rfl he1 hn31 dX1_tryWay_25 ?_
  refine lv_iconst (v := (-1)) hx hb dX1_tryWay_26 (by decide) ?_
  refine lv_icmp_ne (tgt := 39) hx hb dX1_tryWay_27 (by decide) (fun c_27 => ?_) (fun c_27 => ?_)
  · exact fx_vret hx hb hr hlocks hK hS dX1_tryWay_39 ((fl, pr, pg, ky, K, B, M), Ds, Bf) (by unfold fqtry; dsimp only; rw [fqn_nI (by omega), if_neg c_27]) hP hD
  · refine lv_lload hx hb dX1_tryWay_30 (lv_at hl 0 rfl) ?_
    refine lv_ldc2 (v := 2147483647) hx hb hown (hts _ km_230) dX1_tryWay_32 ?_
    refine W.lcmp hx hb dX1_tryWay_35 ?_
    refine lv_if_le (tgt := 40) hx hb dX1_tryWay_36 (by decide) (fun c_36 => ?_) (fun c_36 => ?_)
    · have c_36 := fx_lle.mp c_36
      refine lv_aload_n hx hb dX1_tryWay_40 rfl (lv_at hl 2 rfl) ?_
      refine lv_iload_n hx hb dX1_tryWay_41 rfl (lv_at hl 1 rfl) ?_
      refine fx_Vs (rest := []) (sp_isThere l dC dI A cI cA cZ rest z n hn ar gl fl pr pg ky ac K B M Ds Bf L (nI e1)) hF (cw_RX1_60 hts ⟨Nat.le_of_ble_eq_true rfl, Nat.le_of_ble_eq_true rfl⟩) hA hS hP hK hD hN 0 0 rfl rfl rfl hl.1 rfl (Nat.le_of_ble_eq_true rfl) dX1_tryWay_42 ⟨Nat.le_of_ble_eq_true rfl, Nat.le_of_ble_eq_true rfl⟩ (fun r h => ?_)
      rcases h with ⟨rfl, ⟨j9, hj9, e9, h8⟩⟩ | ⟨rfl, h9⟩
      · have e8 := (nI_eq (by omega) (by omega)).mp e9
        subst e8
        refine lv_if_ne (tgt := 67) hx hb dX1_tryWay_45 (by decide) (fun _ => ?_) (fun h9 => absurd h9 (by decide))
        refine lv_lload hx hb dX1_tryWay_67 (lv_at hl 0 rfl) ?_
        refine lv_aload_n hx hb dX1_tryWay_69 rfl (lv_at hl 2 rfl) ?_
        refine va_get (D := (dC, dI)) (ci := 0) (v := .ref (z 1)) (C := RX1) (T := TX1) (N := 14) hx hb hts inlX1 hown hK hP 0 rfl rfl 3 (by decide) (hts _ km_27) (fun _ h9 => h9) rfl dX1_tryWay_70 ?_
        refine lv_iload_n hx hb dX1_tryWay_73 rfl (lv_at hl 1 rfl) ?_
        refine fx_ald hx hb hK hP 1 0 rfl rfl e1 rfl he1 hn31 dX1_tryWay_74 ?_
        refine lv_i2l hx hb dX1_tryWay_75 rfl ?_
        refine W.lcmp hx hb dX1_tryWay_76 ?_
        refine lv_if_ge (tgt := 96) hx hb dX1_tryWay_77 (by decide) (fun c_77 => ?_) (fun c_77 => ?_)
        · have c_77 := fx_lge.mp c_77
          exact fx_vret hx hb hr hlocks hK hS dX1_tryWay_96 ((fl, pr, pg, ky, K, B, M), Ds, Bf) (by unfold fqtry; dsimp only; rw [fqn_nI (by omega), if_pos c_27, if_neg c_36, if_neg h8, if_neg c_77]) hP hD
        · have c_77 := Classical.not_not.mp (fun h9 => c_77 (fx_lge.mpr h9))
          refine lv_aload_n hx hb dX1_tryWay_80 rfl (lv_at hl 2 rfl) ?_
          refine lv_iload_n hx hb dX1_tryWay_81 rfl (lv_at hl 1 rfl) ?_
          refine lv_lload hx hb dX1_tryWay_82 (lv_at hl 0 rfl) ?_
          refine lv_l2i hx hb dX1_tryWay_84 rfl ?_
          refine fx_Vi (rest := []) (sp_lower l dC dI A cI cA cZ rest z n hn ar gl fl pr pg ky ac K B M Ds Bf L (nI e1) (((Ds t).toInt64 + w0.toInt64).toInt32) hs) hF (cw_RX1_150 hts ⟨Nat.le_of_ble_eq_true rfl, Nat.le_of_ble_eq_true rfl⟩) hA hS hP hK hD hN 0 0 rfl rfl rfl hl.1 rfl (Nat.le_of_ble_eq_true rfl) dX1_tryWay_85 ⟨Nat.le_of_ble_eq_true rfl, Nat.le_of_ble_eq_true rfl⟩ (fun r u H locs h hP hD hS => ?_)
          obtain ⟨fl1, pr1, pg1, ky1, K1, B1, M1⟩ := u
          have hP : va_P (dC, dI) classes (wX z cI cA n ar gl fl1 pr1 pg1 ky1 ac K1 B1 M1 Ds Bf L ++ rest) H := hP
          have hD : va_D A (wX z cI cA n ar gl fl1 pr1 pg1 ky1 ac K1 B1 M1 Ds Bf L ++ rest) := hD
          refine lv_pop hx hb dX1_tryWay_88 rfl ?_
          refine lv_aload_n hx hb dX1_tryWay_89 rfl (lv_at hl 2 rfl) ?_
          refine va_get (D := (dC, dI)) (ci := 0) (v := .ref (z 6)) (C := RX1) (T := TX1) (N := 14) hx hb hts inlX1 hown hK hP 0 rfl rfl 13 (by decide) (hts _ km_33) (fun _ h9 => h9) rfl dX1_tryWay_90 ?_
          refine lv_iload_n hx hb dX1_tryWay_93 rfl (lv_at hl 1 rfl) ?_
          refine lv_iload_n hx hb dX1_tryWay_94 rfl (lv_at hl 3 rfl) ?_
          refine fx_ast hx hb hK hP hD hS 6 0 rfl rfl e1 rfl he1 hn31 dX1_tryWay_95 (fun H locs hP hD hS => ?_)
          have hP : va_P (dC, dI) classes (wX z cI cA n ar gl fl1 pr1 pg1 ky1 ac K1 B1 M1 Ds (upd Bf e1 (nI t)) L ++ rest) H := hP
          have hD : va_D A (wX z cI cA n ar gl fl1 pr1 pg1 ky1 ac K1 B1 M1 Ds (upd Bf e1 (nI t)) L ++ rest) := hD
          exact fx_vret hx hb hr hlocks hK hS dX1_tryWay_96 ((fl1, pr1, pg1, ky1, K1, B1, M1), Ds, upd Bf e1 (nI t)) (by unfold fqtry; dsimp only; rw [fqn_nI (by omega), if_pos c_27, if_neg c_36, if_neg h8, if_pos c_77, ← h]) hP hD
      · have h8 : B e1 = -1 := h9 e1 he1 rfl
        refine lv_if_ne (tgt := 67) hx hb dX1_tryWay_45 (by decide) (fun h9 => absurd h9 (by decide)) (fun _ => ?_)
        refine lv_aload_n hx hb dX1_tryWay_48 rfl (lv_at hl 2 rfl) ?_
        refine lv_iload_n hx hb dX1_tryWay_49 rfl (lv_at hl 1 rfl) ?_
        refine lv_lload hx hb dX1_tryWay_50 (lv_at hl 0 rfl) ?_
        refine lv_l2i hx hb dX1_tryWay_52 rfl ?_
        refine fx_Vi (rest := []) (sp_push l dC dI A cI cA cZ rest z n hn ar gl fl pr pg ky ac K B M Ds Bf L (nI e1) (((Ds t).toInt64 + w0.toInt64).toInt32) hs) hF (cw_RX1_108 hts ⟨Nat.le_of_ble_eq_true rfl, Nat.le_of_ble_eq_true rfl⟩) hA hS hP hK hD hN 0 0 rfl rfl rfl hl.1 rfl (Nat.le_of_ble_eq_true rfl) dX1_tryWay_53 ⟨Nat.le_of_ble_eq_true rfl, Nat.le_of_ble_eq_true rfl⟩ (fun r u H locs h hP hD hS => ?_)
        obtain ⟨fl1, pr1, pg1, ky1, K1, B1, M1⟩ := u
        have hP : va_P (dC, dI) classes (wX z cI cA n ar gl fl1 pr1 pg1 ky1 ac K1 B1 M1 Ds Bf L ++ rest) H := hP
        have hD : va_D A (wX z cI cA n ar gl fl1 pr1 pg1 ky1 ac K1 B1 M1 Ds Bf L ++ rest) := hD
        refine lv_pop hx hb dX1_tryWay_56 rfl ?_
        refine lv_aload_n hx hb dX1_tryWay_57 rfl (lv_at hl 2 rfl) ?_
        refine va_get (D := (dC, dI)) (ci := 0) (v := .ref (z 6)) (C := RX1) (T := TX1) (N := 14) hx hb hts inlX1 hown hK hP 0 rfl rfl 13 (by decide) (hts _ km_33) (fun _ h9 => h9) rfl dX1_tryWay_58 ?_
        refine lv_iload_n hx hb dX1_tryWay_61 rfl (lv_at hl 1 rfl) ?_
        refine lv_iload_n hx hb dX1_tryWay_62 rfl (lv_at hl 3 rfl) ?_
        refine fx_ast hx hb hK hP hD hS 6 0 rfl rfl e1 rfl he1 hn31 dX1_tryWay_63 (fun H locs hP hD hS => ?_)
        have hP : va_P (dC, dI) classes (wX z cI cA n ar gl fl1 pr1 pg1 ky1 ac K1 B1 M1 Ds (upd Bf e1 (nI t)) L ++ rest) H := hP
        have hD : va_D A (wX z cI cA n ar gl fl1 pr1 pg1 ky1 ac K1 B1 M1 Ds (upd Bf e1 (nI t)) L ++ rest) := hD
        refine lv_goto (tgt := 96) hx hb dX1_tryWay_64 (by decide) ?_
        exact fx_vret hx hb hr hlocks hK hS dX1_tryWay_96 ((fl1, pr1, pg1, ky1, K1, B1, M1), Ds, upd Bf e1 (nI t)) (by unfold fqtry; dsimp only; rw [fqn_nI (by omega), if_pos c_27, if_neg c_36, if_pos h8, ← h]) hP hD
    · have c_36 := Classical.not_not.mp (fun h9 => c_36 (fx_lle.mpr h9))
      exact fx_vret hx hb hr hlocks hK hS dX1_tryWay_39 ((fl, pr, pg, ky, K, B, M), Ds, Bf) (by unfold fqtry; dsimp only; rw [fqn_nI (by omega), if_pos c_27, if_pos c_36]) hP hD
set_option maxHeartbeats 4000000 in
set_option maxRecDepth 100000 in
theorem sp_next (l : Launch) (dC : Nat → ClassId) (dI : Nat → Nat → Nat) (A : Nat → Prop) (cI cA cZ : ClassId) (rest : va_W) (z : Nat → Nat) (n : Nat) (hn : n ≤ 40) (ar gl : Int32) (fl pr pg ky ac : Int32) (K B M Ds Bf : Nat → Int32) (L : Nat → Option Nat) (as : Nat → List (Int32 × Int32)) (hch : ∀ i, i < n → fqch rest (L i) (as i) ∧ fqends n (as i)) (hs : fqS n (fl, pr, pg, ky, K, B, M)) : Met l yX1_takeNext (Cond.code yX1_takeNext cX1_takeNext 3 none :: wsL_law) ({ frames := 5, cells := 0, slots := 0, locals := 111 } : Room) (va_Pc [.ref (z 0)] (fx_Pre (dC, dI) classes (fq_ty cI cA cZ) A (wX z cI cA n ar gl fl pr pg ky ac K B M Ds Bf L ++ rest))) (va_Qv (S := fqR) (fun u => u = fqnext n as ((fl, pr, pg, ky, K, B, M), Ds, Bf)) (fx_B (dC, dI) classes (fq_ty cI cA cZ) A (fun u : fqR => wX z cI cA n ar gl u.1.1 u.1.2.1 u.1.2.2.1 u.1.2.2.2.1 ac u.1.2.2.2.2.1 u.1.2.2.2.2.2.1 u.1.2.2.2.2.2.2 u.2.1 u.2.2 L ++ rest)) A) 0 0 A := by
  refine Met.ofW (cc := cX1_takeNext) (maxL := 3) (ret := none) (by decide) rfl ?_
  intro p e s m args below meth c s₁ B0 hml hv
  obtain ⟨rfl, hA, hP, hK, hD, hN⟩ := hv
  have hx := B0.exec
  have hb := B0.bytes
  have hr := B0.returns
  have hts0 := atoms_spec (ws := (Cond.code yX1_takeNext cX1_takeNext 3 none :: wsL_law)) B0.pre
  have hts := fun w (h : w ∈ wsL_law) => hts0 w (List.mem_cons_of_mem _ h)
  have hown : s.vm.findClass RX1 = some m.cls := findClass_of_methodNamed B0.named
  have hlocks := B0.notSynchronized
  have hF : CallFix p m c cX1_takeNext 3 s ([.ref (z 0)] : List Value).toArray wsL_law RX1 := ⟨hx, hb, hml, hown, hts⟩
  have hS : va_S A s.heap s.heap [] := va_S.rf
  have hl := lv_entry ([.ref (z 0)]) (n := 3) (Nat.le_of_ble_eq_true rfl)
  rw [lg_entry_eq]
  generalize (lg_sl ([.ref (z 0)]) ++ List.replicate (3 - (lg_sl ([.ref (z 0)])).length) Slot.unset).toArray = ls at hl ⊢
  have hl : lv_has ls 3 [(0, .ref (z 0))] := hl
  have hn31 : n < 2 ^ 31 := by omega
  refine lv_aload_n hx hb dX1_takeNext_0 rfl (lv_at hl 0 rfl) ?_
  refine fx_Vi (rest := []) (sp_pop l dC dI A cI cA cZ rest z n hn ar gl fl pr pg ky ac K B M Ds Bf L hs) hF (cw_RX1_131 hts ⟨Nat.le_of_ble_eq_true rfl, Nat.le_of_ble_eq_true rfl⟩) hA hS hP hK hD hN 0 0 rfl rfl rfl hl.1 rfl (Nat.le_of_ble_eq_true rfl) dX1_takeNext_1 ⟨Nat.le_of_ble_eq_true rfl, Nat.le_of_ble_eq_true rfl⟩ (fun x u H locs hp hP hD hS => ?_)
  have hs1 := fqpop_S hs
  rw [← hp] at hs1
  obtain ⟨fl1, pr1, pg1, ky1, K1, B1, M1⟩ := u
  have hP : va_P (dC, dI) classes (wX z cI cA n ar gl fl1 pr1 pg1 ky1 ac K1 B1 M1 Ds Bf L ++ rest) H := hP
  have hD : va_D A (wX z cI cA n ar gl fl1 pr1 pg1 ky1 ac K1 B1 M1 Ds Bf L ++ rest) := hD
  refine lv_istore_n (lv' := [(1, .int x), (0, .ref (z 0))]) hx hb dX1_takeNext_4 rfl hl (by decide) rfl (fun ls hl => ?_)
  refine lv_aload_n hx hb dX1_takeNext_5 rfl (lv_at hl 1 rfl) ?_
  refine lv_iload_n hx hb dX1_takeNext_6 rfl (lv_at hl 0 rfl) ?_
  refine fx_Vs (rest := []) (sp_isItem l dC dI A cI cA cZ rest z n hn ar gl fl1 pr1 pg1 ky1 ac K1 B1 M1 Ds Bf L x) hF (cw_RX1_56 hts ⟨Nat.le_of_ble_eq_true rfl, Nat.le_of_ble_eq_true rfl⟩) hA hS hP hK hD hN 0 0 rfl rfl rfl hl.1 rfl (Nat.le_of_ble_eq_true rfl) dX1_takeNext_7 ⟨Nat.le_of_ble_eq_true rfl, Nat.le_of_ble_eq_true rfl⟩ (fun r h => ?_)
  rcases h with ⟨rfl, ⟨j, hj, rfl⟩⟩ | ⟨rfl, h⟩
  · refine lv_if_ne (tgt := 14) hx hb dX1_takeNext_10 (by decide) (fun _ => ?_) (fun h9 => absurd h9 (by decide))
    have K0 : ∀ (t' : List (Int32 × Int32)) (o : Option Nat) (fl' pr' pg' ky' : Int32) (K' B' M' Ds' Bf' : Nat → Int32) (H : Heap) (locs : List Loc) (ls : Array Slot), fqch rest o t' → fqends n t' → fqS n (fl', pr', pg', ky', K', B', M') → fqtries n j t' ((fl', pr', pg', ky', K', B', M'), Ds', Bf') = fqnext n as ((fl, pr, pg, ky, K, B, M), Ds, Bf) → va_P (dC, dI) classes (wX z cI cA n ar gl fl' pr' pg' ky' ac K' B' M' Ds' Bf' L ++ rest) H → va_D A (wX z cI cA n ar gl fl' pr' pg' ky' ac K' B' M' Ds' Bf' L ++ rest) → va_S A s.heap H locs → lv_has ls 3 [(0, .ref (z 0)), (1, .int (nI j)), (2, va_rf o)] → W p l e (headSpec (Cond.code yX1_takeNext cX1_takeNext 3 none :: wsL_law) ({ frames := 5, cells := 0, slots := 0, locals := 111 } : Room)).room s m ([.ref (z 0)] : List Value).toArray below meth c H locs 0 0 (MQ below (va_Qv (S := fqR) (fun u => u = fqnext n as ((fl, pr, pg, ky, K, B, M), Ds, Bf)) (fx_B (dC, dI) classes (fq_ty cI cA cZ) A (fun u : fqR => wX z cI cA n ar gl u.1.1 u.1.2.1 u.1.2.2.1 u.1.2.2.2.1 ac u.1.2.2.2.2.1 u.1.2.2.2.2.2.1 u.1.2.2.2.2.2.2 u.2.1 u.2.2 L ++ rest)) A) ([.ref (z 0)] : List Value).toArray s 0 0 A) (F0 m 31 ls []) := by
      intro t'
      induction t' with
      | nil =>
        intro o fl' pr' pg' ky' K' B' M' Ds' Bf' H locs ls hc he hs' hq hP hD hS hl
        have hc : o = none := hc
        subst hc
        have hl : lv_has ls 3 [(0, .ref (z 0)), (1, .int (nI j)), (2, .null)] := hl
        refine lv_aload_nN hx hb dX1_takeNext_31 rfl (lv_at hl 2 rfl) ?_
        refine lv_ifnullN (tgt := 49) hx hb dX1_takeNext_32 (by decide) ?_
        exact fx_vret hx hb hr hlocks hK hS dX1_takeNext_49 ((fl', pr', pg', ky', K', B', M'), Ds', Bf') (hq) hP hD
      | cons y r ih =>
        obtain ⟨e0, w0⟩ := y
        rintro o fl' pr' pg' ky' K' B' M' Ds' Bf' H locs ls ⟨a, nx, rfl, ⟨k9, hk9⟩, hc⟩ he hs' hq hP hD hS hl
        obtain ⟨e1, he1, hee⟩ := he _ List.mem_cons_self
        have hee : e0 = nI e1 := hee
        subst hee
        have hl : lv_has ls 3 [(0, .ref (z 0)), (1, .int (nI j)), (2, .ref a)] := hl
        refine lv_aload_n hx hb dX1_takeNext_31 rfl (lv_at hl 2 rfl) ?_
        refine lv_ifnull hx hb dX1_takeNext_32 ?_
        refine lv_aload_n hx hb dX1_takeNext_35 rfl (lv_at hl 0 rfl) ?_
        refine lv_iload_n hx hb dX1_takeNext_36 rfl (lv_at hl 1 rfl) ?_
        refine lv_aload_n hx hb dX1_takeNext_37 rfl (lv_at hl 2 rfl) ?_
        refine fx_Vv (rest := []) (sp_try l dC dI A cI cA cZ rest z n hn ar gl fl' pr' pg' ky' ac K' B' M' Ds' Bf' L j a k9 e1 w0 nx hj he1 hk9 hs') hF (cw_RX1_134 hts ⟨Nat.le_of_ble_eq_true rfl, Nat.le_of_ble_eq_true rfl⟩) hA hS hP hK hD hN 0 0 rfl rfl rfl hl.1 rfl (Nat.le_of_ble_eq_true rfl) dX1_takeNext_38 ⟨Nat.le_of_ble_eq_true rfl, Nat.le_of_ble_eq_true rfl⟩ (fun u H locs h hP hD hS => ?_)
        have hs2 := fqtry_S (t := j) (e := nI e1) (w := w0) (s := ((fl', pr', pg', ky', K', B', M'), Ds', Bf')) hs'
        rw [← h] at hs2
        obtain ⟨⟨fl2, pr2, pg2, ky2, K2, B2, M2⟩, Ds2, Bf2⟩ := u
        have hP : va_P (dC, dI) classes (wX z cI cA n ar gl fl2 pr2 pg2 ky2 ac K2 B2 M2 Ds2 Bf2 L ++ rest) H := hP
        have hD : va_D A (wX z cI cA n ar gl fl2 pr2 pg2 ky2 ac K2 B2 M2 Ds2 Bf2 L ++ rest) := hD
        refine lv_aload_n hx hb dX1_takeNext_41 rfl (lv_at hl 2 rfl) ?_
        refine va_getN (D := (dC, dI)) (ci := 1) (v := va_rf nx) (C := RX0) (T := TX0) (N := 3) hx hb hts inlX0 hown hK hP (k9 + 7) hk9 rfl 2 (by decide) (hN.2.2.1.use rfl) (fun _ h9 => h9) rfl dX1_takeNext_42 ?_
        refine fx_astore_nq (lv' := [(2, va_rf nx), (0, .ref (z 0)), (1, .int (nI j))]) hx hb dX1_takeNext_45 rfl hl (by decide) rfl (fun ls hl => ?_)
        refine lv_goto (tgt := 31) hx hb dX1_takeNext_46 (by decide) ?_
        exact ih nx fl2 pr2 pg2 ky2 K2 B2 M2 Ds2 Bf2 H locs ls hc (fun a h => he a (List.mem_cons_of_mem _ h)) hs2 (by rw [← hq, fqtries_c, ← h]) hP hD hS (lv_sub hl [1, 2, 0] rfl)
    refine lv_aload_n hx hb dX1_takeNext_14 rfl (lv_at hl 1 rfl) ?_
    refine va_get (D := (dC, dI)) (ci := 0) (v := .ref (z 5)) (C := RX1) (T := TX1) (N := 14) hx hb hts inlX1 hown hK hP 0 rfl rfl 12 (by decide) (hts _ km_32) (fun _ h9 => h9) rfl dX1_takeNext_15 ?_
    refine lv_iload_n hx hb dX1_takeNext_18 rfl (lv_at hl 0 rfl) ?_
    refine lv_aload_n hx hb dX1_takeNext_19 rfl (lv_at hl 1 rfl) ?_
    refine va_get (D := (dC, dI)) (ci := 0) (v := .int fl1) (C := RX1) (T := TX1) (N := 14) hx hb hts inlX1 hown hK hP 0 rfl rfl 6 (by decide) (hts _ km_63) (fun _ h9 => h9) rfl dX1_takeNext_20 ?_
    refine fx_ast hx hb hK hP hD hS 5 0 rfl rfl j rfl hj hn31 dX1_takeNext_23 (fun H locs hP hD hS => ?_)
    have hP : va_P (dC, dI) classes (wX z cI cA n ar gl fl1 pr1 pg1 ky1 ac K1 B1 M1 (upd Ds j fl1) Bf L ++ rest) H := hP
    have hD : va_D A (wX z cI cA n ar gl fl1 pr1 pg1 ky1 ac K1 B1 M1 (upd Ds j fl1) Bf L ++ rest) := hD
    refine lv_aload_n hx hb dX1_takeNext_24 rfl (lv_at hl 1 rfl) ?_
    refine va_get (D := (dC, dI)) (ci := 0) (v := .ref (z 4)) (C := RX1) (T := TX1) (N := 14) hx hb hts inlX1 hown hK hP 0 rfl rfl 10 (by decide) (hts _ km_31) (fun _ h9 => h9) rfl dX1_takeNext_25 ?_
    refine lv_iload_n hx hb dX1_takeNext_28 rfl (lv_at hl 0 rfl) ?_
    refine fx_aldq hx hb hK hP 4 1 rfl rfl j rfl hj hn31 dX1_takeNext_29 ?_
    refine fx_astore_nq (lv' := [(2, va_rf (L j)), (1, .int (nI j)), (0, .ref (z 0))]) hx hb dX1_takeNext_30 rfl hl (by decide) rfl (fun ls hl => ?_)
    exact K0 (as j) (L j) fl1 pr1 pg1 ky1 K1 B1 M1 (upd Ds j fl1) Bf H locs ls (hch j hj).1 (hch j hj).2 hs1 (by unfold fqnext; dsimp only; rw [← hp]; dsimp only; rw [fqat_some hj hn31]) hP hD hS (lv_sub hl [2, 1, 0] rfl)
  · refine lv_if_ne (tgt := 14) hx hb dX1_takeNext_10 (by decide) (fun h9 => absurd h9 (by decide)) (fun _ => ?_)
    exact fx_vret hx hb hr hlocks hK hS dX1_takeNext_13 ((fl1, pr1, pg1, ky1, K1, B1, M1), Ds, Bf) (by unfold fqnext; dsimp only; rw [← hp]; dsimp only; rw [fqat_none hn31 h]) hP hD
set_option maxHeartbeats 4000000 in
set_option maxRecDepth 100000 in
theorem sp_run (l : Launch) (dC : Nat → ClassId) (dI : Nat → Nat → Nat) (A : Nat → Prop) (cI cA cZ : ClassId) (rest : va_W) (z : Nat → Nat) (n : Nat) (hn : n ≤ 40) (ar gl : Int32) (fl pr pg ky ac : Int32) (K B M Ds Bf : Nat → Int32) (L : Nat → Option Nat) (as : Nat → List (Int32 × Int32)) (x : Int32) (hch : ∀ i, i < n → fqch rest (L i) (as i) ∧ fqends n (as i)) (hs : fqS n (fl, pr, pg, ky, K, B, M)) : Met l yX1_run (Cond.code yX1_run cX1_run 3 (some .int) :: wsL_law) ({ frames := 6, cells := 0, slots := 0, locals := 133 } : Room) (va_Pc [.ref (z 0), .int x] (fx_Pre (dC, dI) classes (fq_ty cI cA cZ) A (wX z cI cA n ar gl fl pr pg ky ac K B M Ds Bf L ++ rest))) (va_Qi (S := fqR) (fun r u => (r, u) = fqrun n as ((fl, pr, pg, ky, K, B, M), Ds, Bf) x) (fx_B (dC, dI) classes (fq_ty cI cA cZ) A (fun u : fqR => wX z cI cA n ar gl u.1.1 u.1.2.1 u.1.2.2.1 u.1.2.2.2.1 ac u.1.2.2.2.2.1 u.1.2.2.2.2.2.1 u.1.2.2.2.2.2.2 u.2.1 u.2.2 L ++ rest)) A) 0 0 A := by
  refine Met.ofW (cc := cX1_run) (maxL := 3) (ret := (some .int)) (by decide) rfl ?_
  intro p e s m args below meth c s₁ B0 hml hv
  obtain ⟨rfl, hA, hP, hK, hD, hN⟩ := hv
  have hx := B0.exec
  have hb := B0.bytes
  have hr := B0.returns
  have hts0 := atoms_spec (ws := (Cond.code yX1_run cX1_run 3 (some .int) :: wsL_law)) B0.pre
  have hts := fun w (h : w ∈ wsL_law) => hts0 w (List.mem_cons_of_mem _ h)
  have hown : s.vm.findClass RX1 = some m.cls := findClass_of_methodNamed B0.named
  have hlocks := B0.notSynchronized
  have hF : CallFix p m c cX1_run 3 s ([.ref (z 0), .int x] : List Value).toArray wsL_law RX1 := ⟨hx, hb, hml, hown, hts⟩
  have hS : va_S A s.heap s.heap [] := va_S.rf
  have hl := lv_entry ([.ref (z 0), .int x]) (n := 3) (Nat.le_of_ble_eq_true rfl)
  rw [lg_entry_eq]
  generalize (lg_sl ([.ref (z 0), .int x]) ++ List.replicate (3 - (lg_sl ([.ref (z 0), .int x])).length) Slot.unset).toArray = ls at hl ⊢
  have hl : lv_has ls 3 [(0, .ref (z 0)), (1, .int x)] := hl
  have hn31 : n < 2 ^ 31 := by omega
  refine lv_aload_n hx hb dX1_run_0 rfl (lv_at hl 0 rfl) ?_
  refine lv_iload_n hx hb dX1_run_1 rfl (lv_at hl 1 rfl) ?_
  refine fx_Vs (rest := []) (sp_isItem l dC dI A cI cA cZ rest z n hn ar gl fl pr pg ky ac K B M Ds Bf L x) hF (cw_RX1_56 hts ⟨Nat.le_of_ble_eq_true rfl, Nat.le_of_ble_eq_true rfl⟩) hA hS hP hK hD hN 0 0 rfl rfl rfl hl.1 rfl (Nat.le_of_ble_eq_true rfl) dX1_run_2 ⟨Nat.le_of_ble_eq_true rfl, Nat.le_of_ble_eq_true rfl⟩ (fun r h => ?_)
  rcases h with ⟨rfl, ⟨j, hj, rfl⟩⟩ | ⟨rfl, h⟩
  · refine lv_if_ne (tgt := 10) hx hb dX1_run_5 (by decide) (fun _ => ?_) (fun h9 => absurd h9 (by decide))
    refine lv_aload_n hx hb dX1_run_10 rfl (lv_at hl 0 rfl) ?_
    refine fx_Vv (rest := []) (sp_empty l dC dI A cI cA cZ rest z n hn ar gl fl pr pg ky ac K B M Ds Bf L) hF (cw_RX1_105 hts ⟨Nat.le_of_ble_eq_true rfl, Nat.le_of_ble_eq_true rfl⟩) hA hS hP hK hD hN 0 0 rfl rfl rfl hl.1 rfl (Nat.le_of_ble_eq_true rfl) dX1_run_11 ⟨Nat.le_of_ble_eq_true rfl, Nat.le_of_ble_eq_true rfl⟩ (fun u H locs h hP hD hS => ?_)
    subst h
    have hP : va_P (dC, dI) classes (wX z cI cA n ar gl 0 0 pg ky ac K (fqfill n (-1) B) (fqfill 32 0 M) Ds Bf L ++ rest) H := hP
    have hD : va_D A (wX z cI cA n ar gl 0 0 pg ky ac K (fqfill n (-1) B) (fqfill 32 0 M) Ds Bf L ++ rest) := hD
    refine lv_aload_n hx hb dX1_run_14 rfl (lv_at hl 0 rfl) ?_
    refine fx_Vv (rest := []) (sp_forget l dC dI A cI cA cZ rest z n hn ar gl 0 0 pg ky ac K (fqfill n (-1) B) (fqfill 32 0 M) Ds Bf L) hF (cw_RX1_102 hts ⟨Nat.le_of_ble_eq_true rfl, Nat.le_of_ble_eq_true rfl⟩) hA hS hP hK hD hN 0 0 rfl rfl rfl hl.1 rfl (Nat.le_of_ble_eq_true rfl) dX1_run_15 ⟨Nat.le_of_ble_eq_true rfl, Nat.le_of_ble_eq_true rfl⟩ (fun u H locs h hP hD hS => ?_)
    subst h
    have hP : va_P (dC, dI) classes (wX z cI cA n ar gl 0 0 pg ky ac K (fqfill n (-1) B) (fqfill 32 0 M) (fqfill n (-1) Ds) (fqfill n (-1) Bf) L ++ rest) H := hP
    have hD : va_D A (wX z cI cA n ar gl 0 0 pg ky ac K (fqfill n (-1) B) (fqfill 32 0 M) (fqfill n (-1) Ds) (fqfill n (-1) Bf) L ++ rest) := hD
    refine lv_aload_n hx hb dX1_run_18 rfl (lv_at hl 0 rfl) ?_
    refine lv_iload_n hx hb dX1_run_19 rfl (lv_at hl 1 rfl) ?_
    refine lv_iconst (v := 0) hx hb dX1_run_20 (by decide) ?_
    have hs0 : fqS n (fqempty n (fl, pr, pg, ky, K, B, M)) := fqempty_S _
    refine fx_Vi (rest := []) (sp_push l dC dI A cI cA cZ rest z n hn ar gl 0 0 pg ky ac K (fqfill n (-1) B) (fqfill 32 0 M) (fqfill n (-1) Ds) (fqfill n (-1) Bf) L (nI j) 0 hs0) hF (cw_RX1_108 hts ⟨Nat.le_of_ble_eq_true rfl, Nat.le_of_ble_eq_true rfl⟩) hA hS hP hK hD hN 0 0 rfl rfl rfl hl.1 rfl (Nat.le_of_ble_eq_true rfl) dX1_run_21 ⟨Nat.le_of_ble_eq_true rfl, Nat.le_of_ble_eq_true rfl⟩ (fun y u H locs hp hP hD hS => ?_)
    have hs1 := fqpush_S (x := nI j) (key := 0) hs0
    have hp : (y, u) = fqpush n (fqempty n (fl, pr, pg, ky, K, B, M)) (nI j) 0 := hp
    rw [← hp] at hs1
    obtain ⟨fl1, pr1, pg1, ky1, K1, B1, M1⟩ := u
    have hP : va_P (dC, dI) classes (wX z cI cA n ar gl fl1 pr1 pg1 ky1 ac K1 B1 M1 (fqfill n (-1) Ds) (fqfill n (-1) Bf) L ++ rest) H := hP
    have hD : va_D A (wX z cI cA n ar gl fl1 pr1 pg1 ky1 ac K1 B1 M1 (fqfill n (-1) Ds) (fqfill n (-1) Bf) L ++ rest) := hD
    refine lv_pop hx hb dX1_run_24 rfl ?_
    have K52 : ∀ (i : Nat) (fl' pr' pg' ky' : Int32) (K' B' M' Ds' Bf' : Nat → Int32) (H : Heap) (locs : List Loc) (ls : Array Slot), ((fl', pr', pg', ky', K', B', M'), Ds', Bf') = fqrounds n as n ((fqpush n (fqempty n (fl, pr, pg, ky, K, B, M)) (nI j) 0).2, fqfill n (-1) Ds, fqfill n (-1) Bf) → va_P (dC, dI) classes (wX z cI cA n ar gl fl' pr' pg' ky' ac K' B' M' Ds' Bf' L ++ rest) H → va_D A (wX z cI cA n ar gl fl' pr' pg' ky' ac K' B' M' Ds' Bf' L ++ rest) → va_S A s.heap H locs → lv_has ls 3 [(0, .ref (z 0)), (1, .int (nI j)), (2, .int (nI i))] → W p l e (headSpec (Cond.code yX1_run cX1_run 3 (some .int) :: wsL_law) ({ frames := 6, cells := 0, slots := 0, locals := 133 } : Room)).room s m ([.ref (z 0), .int (nI j)] : List Value).toArray below meth c H locs 0 0 (MQ below (va_Qi (S := fqR) (fun r u => (r, u) = fqrun n as ((fl, pr, pg, ky, K, B, M), Ds, Bf) (nI j)) (fx_B (dC, dI) classes (fq_ty cI cA cZ) A (fun u : fqR => wX z cI cA n ar gl u.1.1 u.1.2.1 u.1.2.2.1 u.1.2.2.2.1 ac u.1.2.2.2.2.1 u.1.2.2.2.2.2.1 u.1.2.2.2.2.2.2 u.2.1 u.2.2 L ++ rest)) A) ([.ref (z 0), .int (nI j)] : List Value).toArray s 0 0 A) (F0 m 52 ls []) := by
      intro i fl' pr' pg' ky' K' B' M' Ds' Bf' H locs ls hq hP hD hS hl
      refine lv_aload_n hx hb dX1_run_52 rfl (lv_at hl 0 rfl) ?_
      refine fx_Vs (rest := []) (sp_too l dC dI A cI cA cZ rest z n hn ar gl fl' pr' pg' ky' ac K' B' M' Ds' Bf' L as hch) hF (cw_RX1_114 hts ⟨Nat.le_of_ble_eq_true rfl, Nat.le_of_ble_eq_true rfl⟩) hA hS hP hK hD hN 0 0 rfl rfl rfl hl.1 rfl (Nat.le_of_ble_eq_true rfl) dX1_run_53 ⟨Nat.le_of_ble_eq_true rfl, Nat.le_of_ble_eq_true rfl⟩ (fun r h => ?_)
      rcases h with ⟨rfl, h9⟩ | ⟨rfl, h9⟩
      · refine lv_if_eq (tgt := 66) hx hb dX1_run_56 (by decide) (fun h9 => absurd h9 (by decide)) (fun _ => ?_)
        refine lv_aload_n hx hb dX1_run_59 rfl (lv_at hl 0 rfl) ?_
        refine fx_Vv (rest := []) (sp_forget l dC dI A cI cA cZ rest z n hn ar gl fl' pr' pg' ky' ac K' B' M' Ds' Bf' L) hF (cw_RX1_102 hts ⟨Nat.le_of_ble_eq_true rfl, Nat.le_of_ble_eq_true rfl⟩) hA hS hP hK hD hN 0 0 rfl rfl rfl hl.1 rfl (Nat.le_of_ble_eq_true rfl) dX1_run_60 ⟨Nat.le_of_ble_eq_true rfl, Nat.le_of_ble_eq_true rfl⟩ (fun u H locs h hP hD hS => ?_)
        subst h
        have hP : va_P (dC, dI) classes (wX z cI cA n ar gl fl' pr' pg' ky' ac K' B' M' (fqfill n (-1) Ds') (fqfill n (-1) Bf') L ++ rest) H := hP
        have hD : va_D A (wX z cI cA n ar gl fl' pr' pg' ky' ac K' B' M' (fqfill n (-1) Ds') (fqfill n (-1) Bf') L ++ rest) := hD
        refine lv_bipush (v := (-2)) hx hb dX1_run_63 (by decide) ?_
        exact fx_iret hx hb hr hlocks hK hS dX1_run_65 ((fl', pr', pg', ky', K', B', M'), fqfill n (-1) Ds', fqfill n (-1) Bf') (by unfold fqrun; rw [fqat_some hj hn31]; dsimp only; rw [← hq]; dsimp only; rw [h9]; rfl) hP hD
      · refine lv_if_eq (tgt := 66) hx hb dX1_run_56 (by decide) (fun _ => ?_) (fun h9 => absurd h9 (by decide))
        refine lv_iconst (v := 0) hx hb dX1_run_66 (by decide) ?_
        exact fx_iret hx hb hr hlocks hK hS dX1_run_67 ((fl', pr', pg', ky', K', B', M'), Ds', Bf') (by unfold fqrun; rw [fqat_some hj hn31]; dsimp only; rw [← hq]; dsimp only; rw [h9]; rfl) hP hD
    have K27 : ∀ (d i : Nat) (fl' pr' pg' ky' : Int32) (K' B' M' Ds' Bf' : Nat → Int32) (H : Heap) (locs : List Loc) (ls : Array Slot), d + i = n → (fqrounds n as d ((fl', pr', pg', ky', K', B', M'), Ds', Bf') = fqrounds n as n ((fqpush n (fqempty n (fl, pr, pg, ky, K, B, M)) (nI j) 0).2, fqfill n (-1) Ds, fqfill n (-1) Bf)) → (fqS n (fl', pr', pg', ky', K', B', M')) → va_P (dC, dI) classes (wX z cI cA n ar gl fl' pr' pg' ky' ac K' B' M' Ds' Bf' L ++ rest) H → va_D A (wX z cI cA n ar gl fl' pr' pg' ky' ac K' B' M' Ds' Bf' L ++ rest) → va_S A s.heap H locs → lv_has ls 3 [(0, .ref (z 0)), (1, .int (nI j)), (2, .int (nI i))] → W p l e (headSpec (Cond.code yX1_run cX1_run 3 (some .int) :: wsL_law) ({ frames := 6, cells := 0, slots := 0, locals := 133 } : Room)).room s m ([.ref (z 0), .int (nI j)] : List Value).toArray below meth c H locs 0 0 (MQ below (va_Qi (S := fqR) (fun r u => (r, u) = fqrun n as ((fl, pr, pg, ky, K, B, M), Ds, Bf) (nI j)) (fx_B (dC, dI) classes (fq_ty cI cA cZ) A (fun u : fqR => wX z cI cA n ar gl u.1.1 u.1.2.1 u.1.2.2.1 u.1.2.2.2.1 ac u.1.2.2.2.2.1 u.1.2.2.2.2.2.1 u.1.2.2.2.2.2.2 u.2.1 u.2.2 L ++ rest)) A) ([.ref (z 0), .int (nI j)] : List Value).toArray s 0 0 A) (F0 m 27 ls []) := by
      intro d
      induction d with
      | zero =>
        intro i fl' pr' pg' ky' K' B' M' Ds' Bf' H locs ls hdi hq hs' hP hD hS hl
        have e0 : i = n := by omega
        refine lv_iload_n hx hb dX1_run_27 rfl (lv_at hl 2 rfl) ?_
        refine lv_aload_n hx hb dX1_run_28 rfl (lv_at hl 0 rfl) ?_
        refine va_get (D := (dC, dI)) (ci := 0) (v := .int (nI n)) (C := RX1) (T := TX1) (N := 14) hx hb hts inlX1 hown hK hP 0 rfl rfl 0 (by decide) (hts _ km_23) (fun _ h9 => h9) rfl dX1_run_29 ?_
        refine lv_icmp_ge (tgt := 52) hx hb dX1_run_32 (by decide) (fun c_32 => ?_) (fun c_32 => ?_)
        · exact K52 i fl' pr' pg' ky' K' B' M' Ds' Bf' H locs ls hq hP hD hS (lv_sub hl [0, 1, 2] rfl)
        · exact absurd (nI_le (by omega) (by omega)) c_32
      | succ d ih =>
        intro i fl' pr' pg' ky' K' B' M' Ds' Bf' H locs ls hdi hq hs' hP hD hS hl
        have hi : i < n := by omega
        refine lv_iload_n hx hb dX1_run_27 rfl (lv_at hl 2 rfl) ?_
        refine lv_aload_n hx hb dX1_run_28 rfl (lv_at hl 0 rfl) ?_
        refine va_get (D := (dC, dI)) (ci := 0) (v := .int (nI n)) (C := RX1) (T := TX1) (N := 14) hx hb hts inlX1 hown hK hP 0 rfl rfl 0 (by decide) (hts _ km_23) (fun _ h9 => h9) rfl dX1_run_29 ?_
        refine lv_icmp_ge (tgt := 52) hx hb dX1_run_32 (by decide) (fun c_32 => ?_) (fun c_32 => ?_)
        · exact absurd c_32 (nI_ge hi hn31)
        · refine lv_aload_n hx hb dX1_run_35 rfl (lv_at hl 0 rfl) ?_
          refine va_get (D := (dC, dI)) (ci := 0) (v := .int pr') (C := RX1) (T := TX1) (N := 14) hx hb hts inlX1 hown hK hP 0 rfl rfl 7 (by decide) (hts _ km_64) (fun _ h9 => h9) rfl dX1_run_36 ?_
          refine lv_if_le (tgt := 52) hx hb dX1_run_39 (by decide) (fun c_39 => ?_) (fun c_39 => ?_)
          · exact K52 i fl' pr' pg' ky' K' B' M' Ds' Bf' H locs ls (by rw [← hq, fqrounds_s, if_neg (Int32.not_lt.mpr c_39)]) hP hD hS (lv_sub hl [0, 1, 2] rfl)
          · refine lv_aload_n hx hb dX1_run_42 rfl (lv_at hl 0 rfl) ?_
            refine fx_Vv (rest := []) (sp_next l dC dI A cI cA cZ rest z n hn ar gl fl' pr' pg' ky' ac K' B' M' Ds' Bf' L as hch hs') hF (cw_RX1_111 hts ⟨Nat.le_of_ble_eq_true rfl, Nat.le_of_ble_eq_true rfl⟩) hA hS hP hK hD hN 0 0 rfl rfl rfl hl.1 rfl (Nat.le_of_ble_eq_true rfl) dX1_run_43 ⟨Nat.le_of_ble_eq_true rfl, Nat.le_of_ble_eq_true rfl⟩ (fun u H locs h hP hD hS => ?_)
            have hs2 := fqnext_S (as := as) (s := ((fl', pr', pg', ky', K', B', M'), Ds', Bf')) hs'
            rw [← h] at hs2
            obtain ⟨⟨fl2, pr2, pg2, ky2, K2, B2, M2⟩, Ds2, Bf2⟩ := u
            have hP : va_P (dC, dI) classes (wX z cI cA n ar gl fl2 pr2 pg2 ky2 ac K2 B2 M2 Ds2 Bf2 L ++ rest) H := hP
            have hD : va_D A (wX z cI cA n ar gl fl2 pr2 pg2 ky2 ac K2 B2 M2 Ds2 Bf2 L ++ rest) := hD
            refine lv_iinc (v := nI (i + 1)) (lv' := [(2, .int (nI (i + 1))), (0, .ref (z 0)), (1, .int (nI j))]) hx hb dX1_run_46 hl (k := 2) rfl (nI_1 i) (by decide) rfl (fun ls hl => ?_)
            refine lv_goto (tgt := 27) hx hb dX1_run_49 (by decide) ?_
            exact ih (i + 1) fl2 pr2 pg2 ky2 K2 B2 M2 Ds2 Bf2 H locs ls (by omega) (by rw [← hq, fqrounds_s, if_pos (Int32.not_le.mp c_39), ← h]) hs2 hP hD hS (lv_sub hl [1, 2, 0] rfl)
    refine lv_iconst (v := 0) hx hb dX1_run_25 (by decide) ?_
    refine lv_istore_n (lv' := [(2, .int 0), (0, .ref (z 0)), (1, .int (nI j))]) hx hb dX1_run_26 rfl hl (by decide) rfl (fun ls hl => ?_)
    exact K27 n 0 fl1 pr1 pg1 ky1 K1 B1 M1 (fqfill n (-1) Ds) (fqfill n (-1) Bf) H locs ls rfl (by rw [← hp]) hs1 hP hD hS (lv_sub hl [1, 2, 0] rfl)
  · refine lv_if_ne (tgt := 10) hx hb dX1_run_5 (by decide) (fun h9 => absurd h9 (by decide)) (fun _ => ?_)
    refine lv_iconst (v := (-1)) hx hb dX1_run_8 (by decide) ?_
    exact fx_iret hx hb hr hlocks hK hS dX1_run_9 ((fl, pr, pg, ky, K, B, M), Ds, Bf) (by unfold fqrun; rw [fqat_none hn31 h]) hP hD
set_option maxHeartbeats 4000000 in
set_option maxRecDepth 100000 in
theorem sp_sound (l : Launch) (dC : Nat → ClassId) (dI : Nat → Nat → Nat) (A : Nat → Prop) (cI cA cZ : ClassId) (rest : va_W) (z : Nat → Nat) (n : Nat) (hn : n ≤ 40) (ar gl : Int32) (fl pr pg ky ac : Int32) (K B M Ds Bf : Nat → Int32) (L : Nat → Option Nat) (hs : fqS n (fl, pr, pg, ky, K, B, M)) : Met l yX1_sound (Cond.code yX1_sound cX1_sound 2 (some .boolean) :: wsL_law) ({ frames := 3, cells := 0, slots := 0, locals := 63 } : Room) (va_Pc [.ref (z 0)] (fx_Pre (dC, dI) classes (fq_ty cI cA cZ) A (wX z cI cA n ar gl fl pr pg ky ac K B M Ds Bf L ++ rest))) (vp_Si (fun r => (r = 1 ∧ fqsound n (fl, pr, pg, ky, K, B, M) = true) ∨ (r = 0 ∧ fqsound n (fl, pr, pg, ky, K, B, M) = false))) 0 0 (fun _ => False) := by
  refine Met.ofW (cc := cX1_sound) (maxL := 2) (ret := (some .boolean)) (by decide) rfl ?_
  intro p e s m args below meth c s₁ B0 hml hv
  obtain ⟨rfl, hA, hP, hK, hD, hN⟩ := hv
  have hx := B0.exec
  have hb := B0.bytes
  have hr := B0.returns
  have hts0 := atoms_spec (ws := (Cond.code yX1_sound cX1_sound 2 (some .boolean) :: wsL_law)) B0.pre
  have hts := fun w (h : w ∈ wsL_law) => hts0 w (List.mem_cons_of_mem _ h)
  have hown : s.vm.findClass RX1 = some m.cls := findClass_of_methodNamed B0.named
  have hlocks := B0.notSynchronized
  have hF : CallFix p m c cX1_sound 2 s ([.ref (z 0)] : List Value).toArray wsL_law RX1 := ⟨hx, hb, hml, hown, hts⟩
  have hS : va_S A s.heap s.heap [] := va_S.rf
  have hl := lv_entry ([.ref (z 0)]) (n := 2) (Nat.le_of_ble_eq_true rfl)
  rw [lg_entry_eq]
  generalize (lg_sl ([.ref (z 0)]) ++ List.replicate (2 - (lg_sl ([.ref (z 0)])).length) Slot.unset).toArray = ls at hl ⊢
  have hl : lv_has ls 2 [(0, .ref (z 0))] := hl
  have hn31 : n < 2 ^ 31 := by omega
  have K0 : ∀ (d i : Nat) (ls : Array Slot), d + i = n → (fqall (fqokB fl K B) d i = fqall (fqokB fl K B) n 0) → lv_has ls 2 [(0, .ref (z 0)), (1, .int (nI i))] → W p l e (headSpec (Cond.code yX1_sound cX1_sound 2 (some .boolean) :: wsL_law) ({ frames := 3, cells := 0, slots := 0, locals := 63 } : Room)).room s m ([.ref (z 0)] : List Value).toArray below meth c s.heap [] 0 0 (MQ below (vp_Si (fun r => (r = 1 ∧ fqsound n (fl, pr, pg, ky, K, B, M) = true) ∨ (r = 0 ∧ fqsound n (fl, pr, pg, ky, K, B, M) = false))) ([.ref (z 0)] : List Value).toArray s 0 0 (fun _ => False)) (F0 m 2 ls []) := by
    intro d
    induction d with
    | zero =>
      intro i  ls hdi hq hl
      have e0 : i = n := by omega
      have hq : fqall (fqokB fl K B) n 0 = true := hq.symm
      refine lv_iload_n hx hb dX1_sound_2 rfl (lv_at hl 1 rfl) ?_
      refine lv_aload_n hx hb dX1_sound_3 rfl (lv_at hl 0 rfl) ?_
      refine va_get (D := (dC, dI)) (ci := 0) (v := .int (nI n)) (C := RX1) (T := TX1) (N := 14) hx hb hts inlX1 hown hK hP 0 rfl rfl 0 (by decide) (hts _ km_23) (fun _ h9 => h9) rfl dX1_sound_4 ?_
      refine lv_icmp_ge (tgt := 34) hx hb dX1_sound_7 (by decide) (fun c_7 => ?_) (fun c_7 => ?_)
      · refine lv_aload_n hx hb dX1_sound_34 rfl (lv_at hl 0 rfl) ?_
        refine va_get (D := (dC, dI)) (ci := 0) (v := .int pg) (C := RX1) (T := TX1) (N := 14) hx hb hts inlX1 hown hK hP 0 rfl rfl 8 (by decide) (hts _ km_78) (fun _ h9 => h9) rfl dX1_sound_35 ?_
        refine lv_i2l hx hb dX1_sound_38 rfl ?_
        refine lv_ldc2 (v := 32) hx hb hown (hts _ km_278) dX1_sound_39 ?_
        refine lv_aload_n hx hb dX1_sound_42 rfl (lv_at hl 0 rfl) ?_
        refine va_get (D := (dC, dI)) (ci := 0) (v := .int ky) (C := RX1) (T := TX1) (N := 14) hx hb hts inlX1 hown hK hP 0 rfl rfl 9 (by decide) (hts _ km_65) (fun _ h9 => h9) rfl dX1_sound_43 ?_
        refine lv_i2l hx hb dX1_sound_46 rfl ?_
        refine lv_lmul hx hb dX1_sound_47 ?_
        refine W.lcmp hx hb dX1_sound_48 ?_
        refine lv_if_gt (tgt := 56) hx hb dX1_sound_49 (by decide) (fun c_49 => ?_) (fun c_49 => ?_)
        · have c_49 := fx_lgt.mp c_49
          refine lv_iconst (v := 0) hx hb dX1_sound_56 (by decide) ?_
          exact fx_bret hx hb hr (Or.inl rfl) hlocks dX1_sound_57 (Or.inr ⟨rfl, by unfold fqsound; dsimp only; rw [hq, decide_eq_false (Int64.not_le.mpr c_49)]; rfl⟩)
        · have c_49 := fun h9 => c_49 (fx_lgt.mpr h9)
          refine lv_iconst (v := 1) hx hb dX1_sound_52 (by decide) ?_
          refine lv_goto (tgt := 57) hx hb dX1_sound_53 (by decide) ?_
          exact fx_bret hx hb hr (Or.inr rfl) hlocks dX1_sound_57 (Or.inl ⟨rfl, by unfold fqsound; dsimp only; rw [hq, decide_eq_true (Int64.not_lt.mp c_49)]; rfl⟩)
      · exact absurd (nI_le (by omega) (by omega)) c_7
    | succ d ih =>
      intro i  ls hdi hq hl
      have hi : i < n := by omega
      rw [fqall_s] at hq
      refine lv_iload_n hx hb dX1_sound_2 rfl (lv_at hl 1 rfl) ?_
      refine lv_aload_n hx hb dX1_sound_3 rfl (lv_at hl 0 rfl) ?_
      refine va_get (D := (dC, dI)) (ci := 0) (v := .int (nI n)) (C := RX1) (T := TX1) (N := 14) hx hb hts inlX1 hown hK hP 0 rfl rfl 0 (by decide) (hts _ km_23) (fun _ h9 => h9) rfl dX1_sound_4 ?_
      refine lv_icmp_ge (tgt := 34) hx hb dX1_sound_7 (by decide) (fun c_7 => ?_) (fun c_7 => ?_)
      · exact absurd c_7 (nI_ge hi hn31)
      · refine lv_aload_n hx hb dX1_sound_10 rfl (lv_at hl 0 rfl) ?_
        refine lv_iload_n hx hb dX1_sound_11 rfl (lv_at hl 1 rfl) ?_
        refine fx_Vs (rest := []) (sp_isThere l dC dI A cI cA cZ rest z n hn ar gl fl pr pg ky ac K B M Ds Bf L (nI i)) hF (cw_RX1_60 hts ⟨Nat.le_of_ble_eq_true rfl, Nat.le_of_ble_eq_true rfl⟩) hA hS hP hK hD hN 0 0 rfl rfl rfl hl.1 rfl (Nat.le_of_ble_eq_true rfl) dX1_sound_12 ⟨Nat.le_of_ble_eq_true rfl, Nat.le_of_ble_eq_true rfl⟩ (fun r h => ?_)
        rcases h with ⟨rfl, ⟨j9, hj9, e9, h8⟩⟩ | ⟨rfl, h9⟩
        · have e8 := (nI_eq (by omega) (by omega)).mp e9
          subst e8
          refine lv_if_eq (tgt := 28) hx hb dX1_sound_15 (by decide) (fun h9 => absurd h9 (by decide)) (fun _ => ?_)
          refine lv_aload_n hx hb dX1_sound_18 rfl (lv_at hl 0 rfl) ?_
          refine lv_iload_n hx hb dX1_sound_19 rfl (lv_at hl 1 rfl) ?_
          refine fx_Vs (rest := []) (sp_isWhere l dC dI A cI cA cZ rest z n hn ar gl fl pr pg ky ac K B M Ds Bf L i hi ((hs.2 i hi).2 h8) hs.1) hF (cw_RX1_118 hts ⟨Nat.le_of_ble_eq_true rfl, Nat.le_of_ble_eq_true rfl⟩) hA hS hP hK hD hN 0 0 rfl rfl rfl hl.1 rfl (Nat.le_of_ble_eq_true rfl) dX1_sound_20 ⟨Nat.le_of_ble_eq_true rfl, Nat.le_of_ble_eq_true rfl⟩ (fun r h => ?_)
          rcases h with ⟨rfl, h7⟩ | ⟨rfl, h7⟩
          · refine lv_if_ne (tgt := 28) hx hb dX1_sound_23 (by decide) (fun _ => ?_) (fun h9 => absurd h9 (by decide))
            refine lv_iinc (v := nI (i + 1)) (lv' := [(1, .int (nI (i + 1))), (0, .ref (z 0))]) hx hb dX1_sound_28 hl (k := 1) rfl (nI_1 i) (by decide) rfl (fun ls hl => ?_)
            refine lv_goto (tgt := 2) hx hb dX1_sound_31 (by decide) ?_
            exact ih (i + 1) ls (by omega) (by rw [← hq, show fqokB fl K B i = true from decide_eq_true (fun _ => h7), Bool.true_and]) (lv_sub hl [1, 0] rfl)
          · refine lv_if_ne (tgt := 28) hx hb dX1_sound_23 (by decide) (fun h9 => absurd h9 (by decide)) (fun _ => ?_)
            refine lv_iconst (v := 0) hx hb dX1_sound_26 (by decide) ?_
            exact fx_bret hx hb hr (Or.inl rfl) hlocks dX1_sound_27 (Or.inr ⟨rfl, by unfold fqsound; dsimp only; rw [← hq, show fqokB fl K B i = false from decide_eq_false (fun h6 => h7 (h6 h8))]; rfl⟩)
        · have h8 : B i = -1 := h9 i hi rfl
          refine lv_if_eq (tgt := 28) hx hb dX1_sound_15 (by decide) (fun _ => ?_) (fun h9 => absurd h9 (by decide))
          refine lv_iinc (v := nI (i + 1)) (lv' := [(1, .int (nI (i + 1))), (0, .ref (z 0))]) hx hb dX1_sound_28 hl (k := 1) rfl (nI_1 i) (by decide) rfl (fun ls hl => ?_)
          refine lv_goto (tgt := 2) hx hb dX1_sound_31 (by decide) ?_
          exact ih (i + 1) ls (by omega) (by rw [← hq, show fqokB fl K B i = true from decide_eq_true (fun h7 => absurd h8 h7), Bool.true_and]) (lv_sub hl [1, 0] rfl)
  refine lv_iconst (v := 0) hx hb dX1_sound_0 (by decide) ?_
  refine lv_istore_n (lv' := [(1, .int 0), (0, .ref (z 0))]) hx hb dX1_sound_1 rfl hl (by decide) rfl (fun ls hl => ?_)
  exact K0 n 0 ls rfl rfl (lv_sub hl [1, 0] rfl)
end
section
set_option maxHeartbeats 4000000 in
set_option maxRecDepth 100000 in
theorem sp_init (l : Launch) (dC : Nat → ClassId) (dI : Nat → Nat → Nat) (A : Nat → Prop) (cI cA cZ : ClassId) (h : Nat) (x0 x1 x2 : Int32)  : Met l yX1_init (Cond.code yX1_init cX1_init 4 none :: wsL_law) ({ frames := 1, cells := 6, slots := 232, locals := 23 } : Room) (va_Pc [.ref h, .int x0, .int x1, .int x2] (fx_Pre (dC, dI) classes (fq_ty cI cA cZ) A [(h, .inr (0, [.int 0, .int 0, .int 0, .null, .null, .null, .int 0, .int 0, .int 0, .int 0, .null, .int 0, .null, .null]))])) (va_Qv (S := (Nat → Nat)) (fun z => z 0 = h) (fx_B (dC, dI) classes (fq_ty cI cA cZ) A (fun z => wX z cI cA (fqlim x0 40) (nI (fqlim x1 300)) (fqpos x2) 0 0 0 0 0 (fun _ => 0) (fqfill (fqlim x0 40) (-1) (fun _ => 0)) (fun _ => 0) (fqfill (fqlim x0 40) (-1) (fun _ => 0)) (fqfill (fqlim x0 40) (-1) (fun _ => 0)) (fun _ => none) ++ [])) A) 6 232 A := by
  refine Met.ofW (cc := cX1_init) (maxL := 4) (ret := none) (by decide) rfl ?_
  intro p e s m args below meth c s₁ B0 hml hv
  obtain ⟨rfl, hA, hP, hK, hD, hN⟩ := hv
  have hx := B0.exec
  have hb := B0.bytes
  have hr := B0.returns
  have hts0 := atoms_spec (ws := (Cond.code yX1_init cX1_init 4 none :: wsL_law)) B0.pre
  have hts := fun w (h : w ∈ wsL_law) => hts0 w (List.mem_cons_of_mem _ h)
  have hown : s.vm.findClass RX1 = some m.cls := findClass_of_methodNamed B0.named
  have hlocks := B0.notSynchronized
  have hF : CallFix p m c cX1_init 4 s ([.ref h, .int x0, .int x1, .int x2] : List Value).toArray wsL_law RX1 := ⟨hx, hb, hml, hown, hts⟩
  have hin : meth.name = "<init>" := (name_of_methodNamed B0.named B0.method).1
  have hS : va_S A s.heap s.heap [] := va_S.rf
  have hl := lv_entry ([.ref h, .int x0, .int x1, .int x2]) (n := 4) (Nat.le_of_ble_eq_true rfl)
  rw [lg_entry_eq]
  generalize (lg_sl ([.ref h, .int x0, .int x1, .int x2]) ++ List.replicate (4 - (lg_sl ([.ref h, .int x0, .int x1, .int x2])).length) Slot.unset).toArray = ls at hl ⊢
  have hl : lv_has ls 4 [(0, .ref h), (1, .int x0), (2, .int x1), (3, .int x2)] := hl
  have hn1 := fqlim_le x0 (hi := 40) (by decide) (by decide)
  have hn31 : fqlim x0 40 < 2 ^ 31 := by omega
  refine lv_aload_n hx hb dX1_init_0 rfl (lv_at hl 0 rfl) ?_
  refine W.objInit hx hb hown (hts _ km_13) (hts _ km_14) (hts _ km_15) rfl (by rw [hml]; exact hl.1) rfl dX1_init_1 (Nat.le_of_ble_eq_true rfl) (Nat.le_of_ble_eq_true rfl) ?_
  refine W.eq (g2 := F0 m 4 ls []) rfl ?_
  refine lv_aload_n hx hb dX1_init_4 rfl (lv_at hl 0 rfl) ?_
  refine lv_iconst (v := 1) hx hb dX1_init_5 (by decide) ?_
  refine lv_iload_n hx hb dX1_init_6 rfl (lv_at hl 1 rfl) ?_
  refine lv_bipush (v := 40) hx hb dX1_init_7 (by decide) ?_
  refine va_mmin hx hb (by rw [hml]; exact hl.1.symm) hown (hts _ km_16) (hts _ km_17) (hts _ km_18) (hts _ km_19) (Nat.le_of_ble_eq_true rfl) (Nat.le_of_ble_eq_true rfl) (Nat.le_of_ble_eq_true rfl) (Nat.le_of_ble_eq_true rfl) dX1_init_9 ?_
  refine va_mmax hx hb (by rw [hml]; exact hl.1.symm) hown (hts _ km_20) (hts _ km_21) (hts _ km_18) (hts _ km_22) (Nat.le_of_ble_eq_true rfl) (Nat.le_of_ble_eq_true rfl) (Nat.le_of_ble_eq_true rfl) (Nat.le_of_ble_eq_true rfl) dX1_init_12 ?_
  refine fx_is (fqlim_eq x0 (hi := 40) (by decide) (by decide)) ?_
  refine va_putF (D := (dC, dI)) (ci := 0) (v := .int (nI (fqlim x0 40))) (ty := .int) (C := RX1) (T := TX1) (N := 14) hx hb hts inlX1 tyX1 tyX1_ok nmX1 hown hK hP hD hS 0 rfl rfl 0 (by decide) (hts _ km_23) (fun _ h9 => h9) rfl hin rfl (by decide +kernel) rfl rfl (Nat.le_of_ble_eq_true rfl) dX1_init_15 (fun H locs hP hD hS => ?_)
  have hP : va_P (dC, dI) classes [(h, .inr (0, [.int (nI (fqlim x0 40)), .int 0, .int 0, .null, .null, .null, .int 0, .int 0, .int 0, .int 0, .null, .int 0, .null, .null]))] H := hP
  have hD : va_D A [(h, .inr (0, [.int (nI (fqlim x0 40)), .int 0, .int 0, .null, .null, .null, .int 0, .int 0, .int 0, .int 0, .null, .int 0, .null, .null]))] := hD
  refine lv_aload_n hx hb dX1_init_18 rfl (lv_at hl 0 rfl) ?_
  refine lv_iconst (v := 1) hx hb dX1_init_19 (by decide) ?_
  refine lv_iload_n hx hb dX1_init_20 rfl (lv_at hl 2 rfl) ?_
  refine lv_sipush (v := 300) hx hb dX1_init_21 (by decide) ?_
  refine va_mmin hx hb (by rw [hml]; exact hl.1.symm) hown (hts _ km_16) (hts _ km_17) (hts _ km_18) (hts _ km_19) (Nat.le_of_ble_eq_true rfl) (Nat.le_of_ble_eq_true rfl) (Nat.le_of_ble_eq_true rfl) (Nat.le_of_ble_eq_true rfl) dX1_init_24 ?_
  refine va_mmax hx hb (by rw [hml]; exact hl.1.symm) hown (hts _ km_20) (hts _ km_21) (hts _ km_18) (hts _ km_22) (Nat.le_of_ble_eq_true rfl) (Nat.le_of_ble_eq_true rfl) (Nat.le_of_ble_eq_true rfl) (Nat.le_of_ble_eq_true rfl) dX1_init_27 ?_
  refine fx_is (fqlim_eq x1 (hi := 300) (by decide) (by decide)) ?_
  refine va_putF (D := (dC, dI)) (ci := 0) (v := .int (nI (fqlim x1 300))) (ty := .int) (C := RX1) (T := TX1) (N := 14) hx hb hts inlX1 tyX1 tyX1_ok nmX1 hown hK hP hD hS 0 rfl rfl 1 (by decide) (hts _ km_24) (fun _ h9 => h9) rfl hin rfl (by decide +kernel) rfl rfl (Nat.le_of_ble_eq_true rfl) dX1_init_30 (fun H locs hP hD hS => ?_)
  have hP : va_P (dC, dI) classes [(h, .inr (0, [.int (nI (fqlim x0 40)), .int (nI (fqlim x1 300)), .int 0, .null, .null, .null, .int 0, .int 0, .int 0, .int 0, .null, .int 0, .null, .null]))] H := hP
  have hD : va_D A [(h, .inr (0, [.int (nI (fqlim x0 40)), .int (nI (fqlim x1 300)), .int 0, .null, .null, .null, .int 0, .int 0, .int 0, .int 0, .null, .int 0, .null, .null]))] := hD
  refine lv_aload_n hx hb dX1_init_33 rfl (lv_at hl 0 rfl) ?_
  refine lv_iconst (v := 0) hx hb dX1_init_34 (by decide) ?_
  refine lv_iload_n hx hb dX1_init_35 rfl (lv_at hl 3 rfl) ?_
  refine va_mmax hx hb (by rw [hml]; exact hl.1.symm) hown (hts _ km_20) (hts _ km_21) (hts _ km_18) (hts _ km_22) (Nat.le_of_ble_eq_true rfl) (Nat.le_of_ble_eq_true rfl) (Nat.le_of_ble_eq_true rfl) (Nat.le_of_ble_eq_true rfl) dX1_init_36 ?_
  refine fx_is (show _ = fqpos x2 from rfl) ?_
  refine va_putF (D := (dC, dI)) (ci := 0) (v := .int (fqpos x2)) (ty := .int) (C := RX1) (T := TX1) (N := 14) hx hb hts inlX1 tyX1 tyX1_ok nmX1 hown hK hP hD hS 0 rfl rfl 2 (by decide) (hts _ km_25) (fun _ h9 => h9) rfl hin rfl (by decide +kernel) rfl rfl (Nat.le_of_ble_eq_true rfl) dX1_init_39 (fun H locs hP hD hS => ?_)
  have hP : va_P (dC, dI) classes [(h, .inr (0, [.int (nI (fqlim x0 40)), .int (nI (fqlim x1 300)), .int (fqpos x2), .null, .null, .null, .int 0, .int 0, .int 0, .int 0, .null, .int 0, .null, .null]))] H := hP
  have hD : va_D A [(h, .inr (0, [.int (nI (fqlim x0 40)), .int (nI (fqlim x1 300)), .int (fqpos x2), .null, .null, .null, .int 0, .int 0, .int 0, .int 0, .null, .int 0, .null, .null]))] := hD
  refine lv_aload_n hx hb dX1_init_42 rfl (lv_at hl 0 rfl) ?_
  refine lv_aload_n hx hb dX1_init_43 rfl (lv_at hl 0 rfl) ?_
  refine va_get (D := (dC, dI)) (ci := 0) (v := .int (nI (fqlim x0 40))) (C := RX1) (T := TX1) (N := 14) hx hb hts inlX1 hown hK hP 0 rfl rfl 0 (by decide) (hts _ km_23) (fun _ h9 => h9) rfl dX1_init_44 ?_
  refine va_newa (atype := .int) (ty := .int) (a0 := ((fqlim x0 40), .inl (fun _ => 0))) (N' := (fqlim x0 40)) hx hb (hts _ km_26) rfl hK hP hD hS hA (fun _ => rfl) (nI_pos hn31) (nI_clamp hn31) (by simp only [componentBytes]; omega) (by show 0 + 1 ≤ 6; omega) (by show 0 + (fqlim x0 40) ≤ 232; omega) dX1_init_47 (fun q1 cT H hKT hP hD hS => ?_)
  have eT : cT = cI := fq_sameI hKT (i := 3) (j := 0) rfl rfl (fun _ h9 => by cases h9)
  rw [eT] at hP hD
  have hP : va_P (dC, dI) classes [(h, .inr (0, [.int (nI (fqlim x0 40)), .int (nI (fqlim x1 300)), .int (fqpos x2), .null, .null, .null, .int 0, .int 0, .int 0, .int 0, .null, .int 0, .null, .null])), (q1, .inl (cI, (fqlim x0 40), .inl (fun _ => 0)))] H := hP
  have hD : va_D A [(h, .inr (0, [.int (nI (fqlim x0 40)), .int (nI (fqlim x1 300)), .int (fqpos x2), .null, .null, .null, .int 0, .int 0, .int 0, .int 0, .null, .int 0, .null, .null])), (q1, .inl (cI, (fqlim x0 40), .inl (fun _ => 0)))] := hD
  refine va_putF (D := (dC, dI)) (ci := 0) (v := .ref q1) (ty := .array .int) (C := RX1) (T := TX1) (N := 14) hx hb hts inlX1 tyX1 tyX1_ok nmX1 hown hK hP hD hS 0 rfl rfl 3 (by decide) (hts _ km_27) (fun _ h9 => h9) rfl hin rfl (by decide +kernel) rfl rfl (Nat.le_of_ble_eq_true rfl) dX1_init_49 (fun H locs hP hD hS => ?_)
  have hP : va_P (dC, dI) classes [(h, .inr (0, [.int (nI (fqlim x0 40)), .int (nI (fqlim x1 300)), .int (fqpos x2), .ref q1, .null, .null, .int 0, .int 0, .int 0, .int 0, .null, .int 0, .null, .null])), (q1, .inl (cI, (fqlim x0 40), .inl (fun _ => 0)))] H := hP
  have hD : va_D A [(h, .inr (0, [.int (nI (fqlim x0 40)), .int (nI (fqlim x1 300)), .int (fqpos x2), .ref q1, .null, .null, .int 0, .int 0, .int 0, .int 0, .null, .int 0, .null, .null])), (q1, .inl (cI, (fqlim x0 40), .inl (fun _ => 0)))] := hD
  refine lv_aload_n hx hb dX1_init_52 rfl (lv_at hl 0 rfl) ?_
  refine lv_aload_n hx hb dX1_init_53 rfl (lv_at hl 0 rfl) ?_
  refine va_get (D := (dC, dI)) (ci := 0) (v := .int (nI (fqlim x0 40))) (C := RX1) (T := TX1) (N := 14) hx hb hts inlX1 hown hK hP 0 rfl rfl 0 (by decide) (hts _ km_23) (fun _ h9 => h9) rfl dX1_init_54 ?_
  refine va_newa (atype := .int) (ty := .int) (a0 := ((fqlim x0 40), .inl (fun _ => 0))) (N' := (fqlim x0 40)) hx hb (hts _ km_26) rfl hK hP hD hS hA (fun _ => rfl) (nI_pos hn31) (nI_clamp hn31) (by simp only [componentBytes]; omega) (by show 1 + 1 ≤ 6; omega) (by show 0 + (fqlim x0 40) + (fqlim x0 40) ≤ 232; omega) dX1_init_57 (fun q2 cT H hKT hP hD hS => ?_)
  have eT : cT = cI := fq_sameI hKT (i := 3) (j := 0) rfl rfl (fun _ h9 => by cases h9)
  rw [eT] at hP hD
  have hP : va_P (dC, dI) classes [(h, .inr (0, [.int (nI (fqlim x0 40)), .int (nI (fqlim x1 300)), .int (fqpos x2), .ref q1, .null, .null, .int 0, .int 0, .int 0, .int 0, .null, .int 0, .null, .null])), (q1, .inl (cI, (fqlim x0 40), .inl (fun _ => 0))), (q2, .inl (cI, (fqlim x0 40), .inl (fun _ => 0)))] H := hP
  have hD : va_D A [(h, .inr (0, [.int (nI (fqlim x0 40)), .int (nI (fqlim x1 300)), .int (fqpos x2), .ref q1, .null, .null, .int 0, .int 0, .int 0, .int 0, .null, .int 0, .null, .null])), (q1, .inl (cI, (fqlim x0 40), .inl (fun _ => 0))), (q2, .inl (cI, (fqlim x0 40), .inl (fun _ => 0)))] := hD
  refine va_putF (D := (dC, dI)) (ci := 0) (v := .ref q2) (ty := .array .int) (C := RX1) (T := TX1) (N := 14) hx hb hts inlX1 tyX1 tyX1_ok nmX1 hown hK hP hD hS 0 rfl rfl 4 (by decide) (hts _ km_28) (fun _ h9 => h9) rfl hin rfl (by decide +kernel) rfl rfl (Nat.le_of_ble_eq_true rfl) dX1_init_59 (fun H locs hP hD hS => ?_)
  have hP : va_P (dC, dI) classes [(h, .inr (0, [.int (nI (fqlim x0 40)), .int (nI (fqlim x1 300)), .int (fqpos x2), .ref q1, .ref q2, .null, .int 0, .int 0, .int 0, .int 0, .null, .int 0, .null, .null])), (q1, .inl (cI, (fqlim x0 40), .inl (fun _ => 0))), (q2, .inl (cI, (fqlim x0 40), .inl (fun _ => 0)))] H := hP
  have hD : va_D A [(h, .inr (0, [.int (nI (fqlim x0 40)), .int (nI (fqlim x1 300)), .int (fqpos x2), .ref q1, .ref q2, .null, .int 0, .int 0, .int 0, .int 0, .null, .int 0, .null, .null])), (q1, .inl (cI, (fqlim x0 40), .inl (fun _ => 0))), (q2, .inl (cI, (fqlim x0 40), .inl (fun _ => 0)))] := hD
  refine lv_aload_n hx hb dX1_init_62 rfl (lv_at hl 0 rfl) ?_
  refine lv_bipush (v := 32) hx hb dX1_init_63 (by decide) ?_
  refine va_newa (atype := .int) (ty := .int) (a0 := (32, .inl (fun _ => 0))) (N' := 32) hx hb (hts _ km_26) rfl hK hP hD hS hA (fun _ => rfl) (by decide) (by decide) (by simp only [componentBytes]; omega) (by show 2 + 1 ≤ 6; omega) (by show 0 + (fqlim x0 40) + (fqlim x0 40) + 32 ≤ 232; omega) dX1_init_65 (fun q3 cT H hKT hP hD hS => ?_)
  have eT : cT = cI := fq_sameI hKT (i := 3) (j := 0) rfl rfl (fun _ h9 => by cases h9)
  rw [eT] at hP hD
  have hP : va_P (dC, dI) classes [(h, .inr (0, [.int (nI (fqlim x0 40)), .int (nI (fqlim x1 300)), .int (fqpos x2), .ref q1, .ref q2, .null, .int 0, .int 0, .int 0, .int 0, .null, .int 0, .null, .null])), (q1, .inl (cI, (fqlim x0 40), .inl (fun _ => 0))), (q2, .inl (cI, (fqlim x0 40), .inl (fun _ => 0))), (q3, .inl (cI, 32, .inl (fun _ => 0)))] H := hP
  have hD : va_D A [(h, .inr (0, [.int (nI (fqlim x0 40)), .int (nI (fqlim x1 300)), .int (fqpos x2), .ref q1, .ref q2, .null, .int 0, .int 0, .int 0, .int 0, .null, .int 0, .null, .null])), (q1, .inl (cI, (fqlim x0 40), .inl (fun _ => 0))), (q2, .inl (cI, (fqlim x0 40), .inl (fun _ => 0))), (q3, .inl (cI, 32, .inl (fun _ => 0)))] := hD
  refine va_putF (D := (dC, dI)) (ci := 0) (v := .ref q3) (ty := .array .int) (C := RX1) (T := TX1) (N := 14) hx hb hts inlX1 tyX1 tyX1_ok nmX1 hown hK hP hD hS 0 rfl rfl 5 (by decide) (hts _ km_29) (fun _ h9 => h9) rfl hin rfl (by decide +kernel) rfl rfl (Nat.le_of_ble_eq_true rfl) dX1_init_67 (fun H locs hP hD hS => ?_)
  have hP : va_P (dC, dI) classes [(h, .inr (0, [.int (nI (fqlim x0 40)), .int (nI (fqlim x1 300)), .int (fqpos x2), .ref q1, .ref q2, .ref q3, .int 0, .int 0, .int 0, .int 0, .null, .int 0, .null, .null])), (q1, .inl (cI, (fqlim x0 40), .inl (fun _ => 0))), (q2, .inl (cI, (fqlim x0 40), .inl (fun _ => 0))), (q3, .inl (cI, 32, .inl (fun _ => 0)))] H := hP
  have hD : va_D A [(h, .inr (0, [.int (nI (fqlim x0 40)), .int (nI (fqlim x1 300)), .int (fqpos x2), .ref q1, .ref q2, .ref q3, .int 0, .int 0, .int 0, .int 0, .null, .int 0, .null, .null])), (q1, .inl (cI, (fqlim x0 40), .inl (fun _ => 0))), (q2, .inl (cI, (fqlim x0 40), .inl (fun _ => 0))), (q3, .inl (cI, 32, .inl (fun _ => 0)))] := hD
  refine lv_aload_n hx hb dX1_init_70 rfl (lv_at hl 0 rfl) ?_
  refine lv_aload_n hx hb dX1_init_71 rfl (lv_at hl 0 rfl) ?_
  refine va_get (D := (dC, dI)) (ci := 0) (v := .int (nI (fqlim x0 40))) (C := RX1) (T := TX1) (N := 14) hx hb hts inlX1 hown hK hP 0 rfl rfl 0 (by decide) (hts _ km_23) (fun _ h9 => h9) rfl dX1_init_72 ?_
  refine va_newq (N' := (fqlim x0 40)) hx hb hown (hts _ km_30) hN.2.2.2.2 hK hP hD hS hA (nI_pos hn31) (nI_clamp hn31) (by omega) (by show 3 + 1 ≤ 6; omega) (by show 0 + (fqlim x0 40) + (fqlim x0 40) + 32 + (fqlim x0 40) ≤ 232; omega) dX1_init_75 (fun q4 cT H hKT hP hD hS => ?_)
  have eT : cT = cA := fq_sameO hKT (i := 3) (j := 1) rfl rfl
  rw [eT] at hP hD
  have hP : va_P (dC, dI) classes [(h, .inr (0, [.int (nI (fqlim x0 40)), .int (nI (fqlim x1 300)), .int (fqpos x2), .ref q1, .ref q2, .ref q3, .int 0, .int 0, .int 0, .int 0, .null, .int 0, .null, .null])), (q1, .inl (cI, (fqlim x0 40), .inl (fun _ => 0))), (q2, .inl (cI, (fqlim x0 40), .inl (fun _ => 0))), (q3, .inl (cI, 32, .inl (fun _ => 0))), (q4, .inl (cA, (fqlim x0 40), .inr (.inr (.inr (.inr (fun _ => none))))))] H := hP
  have hD : va_D A [(h, .inr (0, [.int (nI (fqlim x0 40)), .int (nI (fqlim x1 300)), .int (fqpos x2), .ref q1, .ref q2, .ref q3, .int 0, .int 0, .int 0, .int 0, .null, .int 0, .null, .null])), (q1, .inl (cI, (fqlim x0 40), .inl (fun _ => 0))), (q2, .inl (cI, (fqlim x0 40), .inl (fun _ => 0))), (q3, .inl (cI, 32, .inl (fun _ => 0))), (q4, .inl (cA, (fqlim x0 40), .inr (.inr (.inr (.inr (fun _ => none))))))] := hD
  refine va_putF (D := (dC, dI)) (ci := 0) (v := .ref q4) (ty := .array (.object "FloorQueue$Arc")) (C := RX1) (T := TX1) (N := 14) hx hb hts inlX1 tyX1 tyX1_ok nmX1 hown hK hP hD hS 0 rfl rfl 10 (by decide) (hts _ km_31) (fun _ h9 => h9) rfl hin rfl (by decide +kernel) rfl rfl (Nat.le_of_ble_eq_true rfl) dX1_init_78 (fun H locs hP hD hS => ?_)
  have hP : va_P (dC, dI) classes [(h, .inr (0, [.int (nI (fqlim x0 40)), .int (nI (fqlim x1 300)), .int (fqpos x2), .ref q1, .ref q2, .ref q3, .int 0, .int 0, .int 0, .int 0, .ref q4, .int 0, .null, .null])), (q1, .inl (cI, (fqlim x0 40), .inl (fun _ => 0))), (q2, .inl (cI, (fqlim x0 40), .inl (fun _ => 0))), (q3, .inl (cI, 32, .inl (fun _ => 0))), (q4, .inl (cA, (fqlim x0 40), .inr (.inr (.inr (.inr (fun _ => none))))))] H := hP
  have hD : va_D A [(h, .inr (0, [.int (nI (fqlim x0 40)), .int (nI (fqlim x1 300)), .int (fqpos x2), .ref q1, .ref q2, .ref q3, .int 0, .int 0, .int 0, .int 0, .ref q4, .int 0, .null, .null])), (q1, .inl (cI, (fqlim x0 40), .inl (fun _ => 0))), (q2, .inl (cI, (fqlim x0 40), .inl (fun _ => 0))), (q3, .inl (cI, 32, .inl (fun _ => 0))), (q4, .inl (cA, (fqlim x0 40), .inr (.inr (.inr (.inr (fun _ => none))))))] := hD
  refine lv_aload_n hx hb dX1_init_81 rfl (lv_at hl 0 rfl) ?_
  refine lv_aload_n hx hb dX1_init_82 rfl (lv_at hl 0 rfl) ?_
  refine va_get (D := (dC, dI)) (ci := 0) (v := .int (nI (fqlim x0 40))) (C := RX1) (T := TX1) (N := 14) hx hb hts inlX1 hown hK hP 0 rfl rfl 0 (by decide) (hts _ km_23) (fun _ h9 => h9) rfl dX1_init_83 ?_
  refine va_newa (atype := .int) (ty := .int) (a0 := ((fqlim x0 40), .inl (fun _ => 0))) (N' := (fqlim x0 40)) hx hb (hts _ km_26) rfl hK hP hD hS hA (fun _ => rfl) (nI_pos hn31) (nI_clamp hn31) (by simp only [componentBytes]; omega) (by show 4 + 1 ≤ 6; omega) (by show 0 + (fqlim x0 40) + (fqlim x0 40) + 32 + (fqlim x0 40) + (fqlim x0 40) ≤ 232; omega) dX1_init_86 (fun q5 cT H hKT hP hD hS => ?_)
  have eT : cT = cI := fq_sameI hKT (i := 3) (j := 0) rfl rfl (fun _ h9 => by cases h9)
  rw [eT] at hP hD
  have hP : va_P (dC, dI) classes [(h, .inr (0, [.int (nI (fqlim x0 40)), .int (nI (fqlim x1 300)), .int (fqpos x2), .ref q1, .ref q2, .ref q3, .int 0, .int 0, .int 0, .int 0, .ref q4, .int 0, .null, .null])), (q1, .inl (cI, (fqlim x0 40), .inl (fun _ => 0))), (q2, .inl (cI, (fqlim x0 40), .inl (fun _ => 0))), (q3, .inl (cI, 32, .inl (fun _ => 0))), (q4, .inl (cA, (fqlim x0 40), .inr (.inr (.inr (.inr (fun _ => none)))))), (q5, .inl (cI, (fqlim x0 40), .inl (fun _ => 0)))] H := hP
  have hD : va_D A [(h, .inr (0, [.int (nI (fqlim x0 40)), .int (nI (fqlim x1 300)), .int (fqpos x2), .ref q1, .ref q2, .ref q3, .int 0, .int 0, .int 0, .int 0, .ref q4, .int 0, .null, .null])), (q1, .inl (cI, (fqlim x0 40), .inl (fun _ => 0))), (q2, .inl (cI, (fqlim x0 40), .inl (fun _ => 0))), (q3, .inl (cI, 32, .inl (fun _ => 0))), (q4, .inl (cA, (fqlim x0 40), .inr (.inr (.inr (.inr (fun _ => none)))))), (q5, .inl (cI, (fqlim x0 40), .inl (fun _ => 0)))] := hD
  refine va_putF (D := (dC, dI)) (ci := 0) (v := .ref q5) (ty := .array .int) (C := RX1) (T := TX1) (N := 14) hx hb hts inlX1 tyX1 tyX1_ok nmX1 hown hK hP hD hS 0 rfl rfl 12 (by decide) (hts _ km_32) (fun _ h9 => h9) rfl hin rfl (by decide +kernel) rfl rfl (Nat.le_of_ble_eq_true rfl) dX1_init_88 (fun H locs hP hD hS => ?_)
  have hP : va_P (dC, dI) classes [(h, .inr (0, [.int (nI (fqlim x0 40)), .int (nI (fqlim x1 300)), .int (fqpos x2), .ref q1, .ref q2, .ref q3, .int 0, .int 0, .int 0, .int 0, .ref q4, .int 0, .ref q5, .null])), (q1, .inl (cI, (fqlim x0 40), .inl (fun _ => 0))), (q2, .inl (cI, (fqlim x0 40), .inl (fun _ => 0))), (q3, .inl (cI, 32, .inl (fun _ => 0))), (q4, .inl (cA, (fqlim x0 40), .inr (.inr (.inr (.inr (fun _ => none)))))), (q5, .inl (cI, (fqlim x0 40), .inl (fun _ => 0)))] H := hP
  have hD : va_D A [(h, .inr (0, [.int (nI (fqlim x0 40)), .int (nI (fqlim x1 300)), .int (fqpos x2), .ref q1, .ref q2, .ref q3, .int 0, .int 0, .int 0, .int 0, .ref q4, .int 0, .ref q5, .null])), (q1, .inl (cI, (fqlim x0 40), .inl (fun _ => 0))), (q2, .inl (cI, (fqlim x0 40), .inl (fun _ => 0))), (q3, .inl (cI, 32, .inl (fun _ => 0))), (q4, .inl (cA, (fqlim x0 40), .inr (.inr (.inr (.inr (fun _ => none)))))), (q5, .inl (cI, (fqlim x0 40), .inl (fun _ => 0)))] := hD
  refine lv_aload_n hx hb dX1_init_91 rfl (lv_at hl 0 rfl) ?_
  refine lv_aload_n hx hb dX1_init_92 rfl (lv_at hl 0 rfl) ?_
  refine va_get (D := (dC, dI)) (ci := 0) (v := .int (nI (fqlim x0 40))) (C := RX1) (T := TX1) (N := 14) hx hb hts inlX1 hown hK hP 0 rfl rfl 0 (by decide) (hts _ km_23) (fun _ h9 => h9) rfl dX1_init_93 ?_
  refine va_newa (atype := .int) (ty := .int) (a0 := ((fqlim x0 40), .inl (fun _ => 0))) (N' := (fqlim x0 40)) hx hb (hts _ km_26) rfl hK hP hD hS hA (fun _ => rfl) (nI_pos hn31) (nI_clamp hn31) (by simp only [componentBytes]; omega) (by show 5 + 1 ≤ 6; omega) (by show 0 + (fqlim x0 40) + (fqlim x0 40) + 32 + (fqlim x0 40) + (fqlim x0 40) + (fqlim x0 40) ≤ 232; omega) dX1_init_96 (fun q6 cT H hKT hP hD hS => ?_)
  have eT : cT = cI := fq_sameI hKT (i := 3) (j := 0) rfl rfl (fun _ h9 => by cases h9)
  rw [eT] at hP hD
  have hP : va_P (dC, dI) classes [(h, .inr (0, [.int (nI (fqlim x0 40)), .int (nI (fqlim x1 300)), .int (fqpos x2), .ref q1, .ref q2, .ref q3, .int 0, .int 0, .int 0, .int 0, .ref q4, .int 0, .ref q5, .null])), (q1, .inl (cI, (fqlim x0 40), .inl (fun _ => 0))), (q2, .inl (cI, (fqlim x0 40), .inl (fun _ => 0))), (q3, .inl (cI, 32, .inl (fun _ => 0))), (q4, .inl (cA, (fqlim x0 40), .inr (.inr (.inr (.inr (fun _ => none)))))), (q5, .inl (cI, (fqlim x0 40), .inl (fun _ => 0))), (q6, .inl (cI, (fqlim x0 40), .inl (fun _ => 0)))] H := hP
  have hD : va_D A [(h, .inr (0, [.int (nI (fqlim x0 40)), .int (nI (fqlim x1 300)), .int (fqpos x2), .ref q1, .ref q2, .ref q3, .int 0, .int 0, .int 0, .int 0, .ref q4, .int 0, .ref q5, .null])), (q1, .inl (cI, (fqlim x0 40), .inl (fun _ => 0))), (q2, .inl (cI, (fqlim x0 40), .inl (fun _ => 0))), (q3, .inl (cI, 32, .inl (fun _ => 0))), (q4, .inl (cA, (fqlim x0 40), .inr (.inr (.inr (.inr (fun _ => none)))))), (q5, .inl (cI, (fqlim x0 40), .inl (fun _ => 0))), (q6, .inl (cI, (fqlim x0 40), .inl (fun _ => 0)))] := hD
  refine va_putF (D := (dC, dI)) (ci := 0) (v := .ref q6) (ty := .array .int) (C := RX1) (T := TX1) (N := 14) hx hb hts inlX1 tyX1 tyX1_ok nmX1 hown hK hP hD hS 0 rfl rfl 13 (by decide) (hts _ km_33) (fun _ h9 => h9) rfl hin rfl (by decide +kernel) rfl rfl (Nat.le_of_ble_eq_true rfl) dX1_init_98 (fun H locs hP hD hS => ?_)
  have hP : va_P (dC, dI) classes [(h, .inr (0, [.int (nI (fqlim x0 40)), .int (nI (fqlim x1 300)), .int (fqpos x2), .ref q1, .ref q2, .ref q3, .int 0, .int 0, .int 0, .int 0, .ref q4, .int 0, .ref q5, .ref q6])), (q1, .inl (cI, (fqlim x0 40), .inl (fun _ => 0))), (q2, .inl (cI, (fqlim x0 40), .inl (fun _ => 0))), (q3, .inl (cI, 32, .inl (fun _ => 0))), (q4, .inl (cA, (fqlim x0 40), .inr (.inr (.inr (.inr (fun _ => none)))))), (q5, .inl (cI, (fqlim x0 40), .inl (fun _ => 0))), (q6, .inl (cI, (fqlim x0 40), .inl (fun _ => 0)))] H := hP
  have hD : va_D A [(h, .inr (0, [.int (nI (fqlim x0 40)), .int (nI (fqlim x1 300)), .int (fqpos x2), .ref q1, .ref q2, .ref q3, .int 0, .int 0, .int 0, .int 0, .ref q4, .int 0, .ref q5, .ref q6])), (q1, .inl (cI, (fqlim x0 40), .inl (fun _ => 0))), (q2, .inl (cI, (fqlim x0 40), .inl (fun _ => 0))), (q3, .inl (cI, 32, .inl (fun _ => 0))), (q4, .inl (cA, (fqlim x0 40), .inr (.inr (.inr (.inr (fun _ => none)))))), (q5, .inl (cI, (fqlim x0 40), .inl (fun _ => 0))), (q6, .inl (cI, (fqlim x0 40), .inl (fun _ => 0)))] := hD
  refine lv_aload_n hx hb dX1_init_101 rfl (lv_at hl 0 rfl) ?_
  refine va_get (D := (dC, dI)) (ci := 0) (v := .ref q2) (C := RX1) (T := TX1) (N := 14) hx hb hts inlX1 hown hK hP 0 rfl rfl 4 (by decide) (hts _ km_28) (fun _ h9 => h9) rfl dX1_init_102 ?_
  refine lv_iconst (v := (-1)) hx hb dX1_init_105 (by decide) ?_
  refine fx_Sv (rest := []) (sp_fill l dC dI A cI cA cZ [(h, .inr (0, [.int (nI (fqlim x0 40)), .int (nI (fqlim x1 300)), .int (fqpos x2), .ref q1, .ref q2, .ref q3, .int 0, .int 0, .int 0, .int 0, .ref q4, .int 0, .ref q5, .ref q6])), (q1, .inl (cI, (fqlim x0 40), .inl (fun _ => 0))), (q2, .inl (cI, (fqlim x0 40), .inl (fun _ => 0))), (q3, .inl (cI, 32, .inl (fun _ => 0))), (q4, .inl (cA, (fqlim x0 40), .inr (.inr (.inr (.inr (fun _ => none)))))), (q5, .inl (cI, (fqlim x0 40), .inl (fun _ => 0))), (q6, .inl (cI, (fqlim x0 40), .inl (fun _ => 0)))] 2 q2 (fqlim x0 40) (fun _ => 0) (-1) rfl hn31) hF (cw_RX1_50 hts ⟨Nat.le_of_ble_eq_true rfl, Nat.le_of_ble_eq_true rfl⟩) hA hS hP hK hD hN rfl hl.1 rfl (Nat.le_of_ble_eq_true rfl) dX1_init_106 ⟨by show 6 + 0 ≤ 6; omega, by show 0 + (fqlim x0 40) + (fqlim x0 40) + 32 + (fqlim x0 40) + (fqlim x0 40) + (fqlim x0 40) + 0 ≤ 232; omega⟩ (fun u H locs h9 hP hD hS => ?_)
  subst h9
  have hP : va_P (dC, dI) classes [(h, .inr (0, [.int (nI (fqlim x0 40)), .int (nI (fqlim x1 300)), .int (fqpos x2), .ref q1, .ref q2, .ref q3, .int 0, .int 0, .int 0, .int 0, .ref q4, .int 0, .ref q5, .ref q6])), (q1, .inl (cI, (fqlim x0 40), .inl (fun _ => 0))), (q2, .inl (cI, (fqlim x0 40), .inl (fqfill (fqlim x0 40) (-1) (fun _ => 0)))), (q3, .inl (cI, 32, .inl (fun _ => 0))), (q4, .inl (cA, (fqlim x0 40), .inr (.inr (.inr (.inr (fun _ => none)))))), (q5, .inl (cI, (fqlim x0 40), .inl (fun _ => 0))), (q6, .inl (cI, (fqlim x0 40), .inl (fun _ => 0)))] H := hP
  have hD : va_D A [(h, .inr (0, [.int (nI (fqlim x0 40)), .int (nI (fqlim x1 300)), .int (fqpos x2), .ref q1, .ref q2, .ref q3, .int 0, .int 0, .int 0, .int 0, .ref q4, .int 0, .ref q5, .ref q6])), (q1, .inl (cI, (fqlim x0 40), .inl (fun _ => 0))), (q2, .inl (cI, (fqlim x0 40), .inl (fqfill (fqlim x0 40) (-1) (fun _ => 0)))), (q3, .inl (cI, 32, .inl (fun _ => 0))), (q4, .inl (cA, (fqlim x0 40), .inr (.inr (.inr (.inr (fun _ => none)))))), (q5, .inl (cI, (fqlim x0 40), .inl (fun _ => 0))), (q6, .inl (cI, (fqlim x0 40), .inl (fun _ => 0)))] := hD
  refine lv_aload_n hx hb dX1_init_109 rfl (lv_at hl 0 rfl) ?_
  refine va_get (D := (dC, dI)) (ci := 0) (v := .ref q5) (C := RX1) (T := TX1) (N := 14) hx hb hts inlX1 hown hK hP 0 rfl rfl 12 (by decide) (hts _ km_32) (fun _ h9 => h9) rfl dX1_init_110 ?_
  refine lv_iconst (v := (-1)) hx hb dX1_init_113 (by decide) ?_
  refine fx_Sv (rest := []) (sp_fill l dC dI A cI cA cZ [(h, .inr (0, [.int (nI (fqlim x0 40)), .int (nI (fqlim x1 300)), .int (fqpos x2), .ref q1, .ref q2, .ref q3, .int 0, .int 0, .int 0, .int 0, .ref q4, .int 0, .ref q5, .ref q6])), (q1, .inl (cI, (fqlim x0 40), .inl (fun _ => 0))), (q2, .inl (cI, (fqlim x0 40), .inl (fqfill (fqlim x0 40) (-1) (fun _ => 0)))), (q3, .inl (cI, 32, .inl (fun _ => 0))), (q4, .inl (cA, (fqlim x0 40), .inr (.inr (.inr (.inr (fun _ => none)))))), (q5, .inl (cI, (fqlim x0 40), .inl (fun _ => 0))), (q6, .inl (cI, (fqlim x0 40), .inl (fun _ => 0)))] 5 q5 (fqlim x0 40) (fun _ => 0) (-1) rfl hn31) hF (cw_RX1_50 hts ⟨Nat.le_of_ble_eq_true rfl, Nat.le_of_ble_eq_true rfl⟩) hA hS hP hK hD hN rfl hl.1 rfl (Nat.le_of_ble_eq_true rfl) dX1_init_114 ⟨by show 6 + 0 ≤ 6; omega, by show 0 + (fqlim x0 40) + (fqlim x0 40) + 32 + (fqlim x0 40) + (fqlim x0 40) + (fqlim x0 40) + 0 ≤ 232; omega⟩ (fun u H locs h9 hP hD hS => ?_)
  subst h9
  have hP : va_P (dC, dI) classes [(h, .inr (0, [.int (nI (fqlim x0 40)), .int (nI (fqlim x1 300)), .int (fqpos x2), .ref q1, .ref q2, .ref q3, .int 0, .int 0, .int 0, .int 0, .ref q4, .int 0, .ref q5, .ref q6])), (q1, .inl (cI, (fqlim x0 40), .inl (fun _ => 0))), (q2, .inl (cI, (fqlim x0 40), .inl (fqfill (fqlim x0 40) (-1) (fun _ => 0)))), (q3, .inl (cI, 32, .inl (fun _ => 0))), (q4, .inl (cA, (fqlim x0 40), .inr (.inr (.inr (.inr (fun _ => none)))))), (q5, .inl (cI, (fqlim x0 40), .inl (fqfill (fqlim x0 40) (-1) (fun _ => 0)))), (q6, .inl (cI, (fqlim x0 40), .inl (fun _ => 0)))] H := hP
  have hD : va_D A [(h, .inr (0, [.int (nI (fqlim x0 40)), .int (nI (fqlim x1 300)), .int (fqpos x2), .ref q1, .ref q2, .ref q3, .int 0, .int 0, .int 0, .int 0, .ref q4, .int 0, .ref q5, .ref q6])), (q1, .inl (cI, (fqlim x0 40), .inl (fun _ => 0))), (q2, .inl (cI, (fqlim x0 40), .inl (fqfill (fqlim x0 40) (-1) (fun _ => 0)))), (q3, .inl (cI, 32, .inl (fun _ => 0))), (q4, .inl (cA, (fqlim x0 40), .inr (.inr (.inr (.inr (fun _ => none)))))), (q5, .inl (cI, (fqlim x0 40), .inl (fqfill (fqlim x0 40) (-1) (fun _ => 0)))), (q6, .inl (cI, (fqlim x0 40), .inl (fun _ => 0)))] := hD
  refine lv_aload_n hx hb dX1_init_117 rfl (lv_at hl 0 rfl) ?_
  refine va_get (D := (dC, dI)) (ci := 0) (v := .ref q6) (C := RX1) (T := TX1) (N := 14) hx hb hts inlX1 hown hK hP 0 rfl rfl 13 (by decide) (hts _ km_33) (fun _ h9 => h9) rfl dX1_init_118 ?_
  refine lv_iconst (v := (-1)) hx hb dX1_init_121 (by decide) ?_
  refine fx_Sv (rest := []) (sp_fill l dC dI A cI cA cZ [(h, .inr (0, [.int (nI (fqlim x0 40)), .int (nI (fqlim x1 300)), .int (fqpos x2), .ref q1, .ref q2, .ref q3, .int 0, .int 0, .int 0, .int 0, .ref q4, .int 0, .ref q5, .ref q6])), (q1, .inl (cI, (fqlim x0 40), .inl (fun _ => 0))), (q2, .inl (cI, (fqlim x0 40), .inl (fqfill (fqlim x0 40) (-1) (fun _ => 0)))), (q3, .inl (cI, 32, .inl (fun _ => 0))), (q4, .inl (cA, (fqlim x0 40), .inr (.inr (.inr (.inr (fun _ => none)))))), (q5, .inl (cI, (fqlim x0 40), .inl (fqfill (fqlim x0 40) (-1) (fun _ => 0)))), (q6, .inl (cI, (fqlim x0 40), .inl (fun _ => 0)))] 6 q6 (fqlim x0 40) (fun _ => 0) (-1) rfl hn31) hF (cw_RX1_50 hts ⟨Nat.le_of_ble_eq_true rfl, Nat.le_of_ble_eq_true rfl⟩) hA hS hP hK hD hN rfl hl.1 rfl (Nat.le_of_ble_eq_true rfl) dX1_init_122 ⟨by show 6 + 0 ≤ 6; omega, by show 0 + (fqlim x0 40) + (fqlim x0 40) + 32 + (fqlim x0 40) + (fqlim x0 40) + (fqlim x0 40) + 0 ≤ 232; omega⟩ (fun u H locs h9 hP hD hS => ?_)
  subst h9
  have hP : va_P (dC, dI) classes [(h, .inr (0, [.int (nI (fqlim x0 40)), .int (nI (fqlim x1 300)), .int (fqpos x2), .ref q1, .ref q2, .ref q3, .int 0, .int 0, .int 0, .int 0, .ref q4, .int 0, .ref q5, .ref q6])), (q1, .inl (cI, (fqlim x0 40), .inl (fun _ => 0))), (q2, .inl (cI, (fqlim x0 40), .inl (fqfill (fqlim x0 40) (-1) (fun _ => 0)))), (q3, .inl (cI, 32, .inl (fun _ => 0))), (q4, .inl (cA, (fqlim x0 40), .inr (.inr (.inr (.inr (fun _ => none)))))), (q5, .inl (cI, (fqlim x0 40), .inl (fqfill (fqlim x0 40) (-1) (fun _ => 0)))), (q6, .inl (cI, (fqlim x0 40), .inl (fqfill (fqlim x0 40) (-1) (fun _ => 0))))] H := hP
  have hD : va_D A [(h, .inr (0, [.int (nI (fqlim x0 40)), .int (nI (fqlim x1 300)), .int (fqpos x2), .ref q1, .ref q2, .ref q3, .int 0, .int 0, .int 0, .int 0, .ref q4, .int 0, .ref q5, .ref q6])), (q1, .inl (cI, (fqlim x0 40), .inl (fun _ => 0))), (q2, .inl (cI, (fqlim x0 40), .inl (fqfill (fqlim x0 40) (-1) (fun _ => 0)))), (q3, .inl (cI, 32, .inl (fun _ => 0))), (q4, .inl (cA, (fqlim x0 40), .inr (.inr (.inr (.inr (fun _ => none)))))), (q5, .inl (cI, (fqlim x0 40), .inl (fqfill (fqlim x0 40) (-1) (fun _ => 0)))), (q6, .inl (cI, (fqlim x0 40), .inl (fqfill (fqlim x0 40) (-1) (fun _ => 0))))] := hD
  refine W.widen (k := 6) (n := 232) (by omega) (by omega) ?_
  exact fx_vret hx hb hr hlocks hK hS dX1_init_125 (fun k => match k with | 0 => h | 1 => q1 | 2 => q2 | 3 => q3 | 4 => q4 | 5 => q5 | _ => q6) rfl hP hD
end
section
/-! MORE PURE ROWS ON THE REFERENCE -/
theorem mq_starts {i j : Nat} {v : Int32} {N : Nat → Int32} (hv : v = if i = j then 1 else 0) : upd (fun k => if k < i then (if k = j then 1 else 0) else N k) i v = (fun k => if k < i + 1 then (if k = j then 1 else 0) else N k) := by
  funext k
  show (if k = i then v else if k < i then (if k = j then 1 else 0) else N k) = if k < i + 1 then (if k = j then 1 else 0) else N k
  by_cases h2 : k = i
  · subst h2
    rw [if_pos rfl, if_pos (show k < k + 1 by omega), hv]
  · by_cases h3 : k < i
    · rw [if_neg h2, if_pos h3, if_pos (show k < i + 1 by omega)]
    · rw [if_neg h2, if_neg h3, if_neg (show ¬ k < i + 1 by omega)]
theorem mq_start0 {j : Nat} {N : Nat → Int32} : (fun k => if k < 0 then (if k = j then (1 : Int32) else 0) else N k) = N := by funext k; simp
theorem mqstart_T {n : Nat} {q : mqQ} {x key : Int32} {W0 Fo Tk : Nat → Int32} (hn : n ≤ 40) (h : mqS n q) : mqT n ((mqpush n q x key).2, W0, Fo, fqfill 40 0 Tk) := ⟨mqpush_S h, fun i hi _ => if_pos (by omega)⟩
theorem mqmu_le (n : Nat) (s : mqR) : mqmu n s < n + 1 := Nat.lt_succ_of_le (fqcnt_le _ _)
theorem fqpos_neg {x : Int32} (h : ¬ 0 ≤ x) : (0 : Int32) = fqpos x := by
  unfold fqpos
  rw [if_neg (fun q => h (Int32.le_of_lt q))]
theorem fqpos_pos {x : Int32} (h : 0 ≤ x) : x = fqpos x := by
  unfold fqpos
  by_cases q : 0 < x
  · rw [if_pos q]
  · rw [if_neg q]
    exact Int32.le_antisymm (Int32.not_lt.mp q) h
theorem fqlim_1 {x : Int32} {hi : Nat} (h : ¬ 1 ≤ x) : (1 : Int32) = nI (fqlim x hi) := by
  unfold fqlim
  rw [if_pos (Int32.not_le.mp h)]
  rfl
theorem fqlim_hi {x : Int32} {hi : Nat} (h : 1 ≤ x) (h2 : ¬ x ≤ nI hi) : nI hi = nI (fqlim x hi) := by
  unfold fqlim
  rw [if_neg (Int32.not_lt.mpr h), if_pos (Int32.not_le.mp h2)]
theorem fqlim_x {x : Int32} {hi : Nat} (h : 1 ≤ x) (h2 : x ≤ nI hi) : x = nI (fqlim x hi) := by
  unfold fqlim
  rw [if_neg (Int32.not_lt.mpr h), if_neg (Int32.not_lt.mpr h2), nI_fqn (fun q => absurd (Int32.lt_of_lt_of_le q (show (0 : Int32) ≤ x from Int32.le_trans (by decide) h)) (Int32.lt_irrefl))]
end
section
theorem cw_RX2_51 {R : Room} {s : State} {args : Array Value} {rm : Room} (hts : ∀ w ∈ wsL_law, w.before args s = true) (hR : rm.frames + 1 ≤ R.frames ∧ 8 + (2 + 11) + rm.locals ≤ R.locals) : CallW R s args RX2 RX2 51 yX2_isItem cX2_isItem 2 (some .boolean) (Cond.code yX2_isItem cX2_isItem 2 (some .boolean) :: wsL_law) rm rm.cells rm.slots 1 := cwV 1 hts (km_app (km_four km_98 km_99 km_100 km_5) (km_in km_101)) rfl rfl rfl (by decide +kernel) hR
theorem cw_RX2_61 {R : Room} {s : State} {args : Array Value} {rm : Room} (hts : ∀ w ∈ wsL_law, w.before args s = true) (hR : rm.frames + 1 ≤ R.frames ∧ 8 + (2 + 11) + rm.locals ≤ R.locals) : CallW R s args RX2 RX2 61 yX2_isThere cX2_isThere 2 (some .boolean) (Cond.code yX2_isThere cX2_isThere 2 (some .boolean) :: wsL_law) rm rm.cells rm.slots 1 := cwV 1 hts (km_app (km_four km_110 km_111 km_112 km_5) (km_in km_113)) rfl rfl rfl (by decide +kernel) hR
theorem cw_RX2_64 {R : Room} {s : State} {args : Array Value} {rm : Room} (hts : ∀ w ∈ wsL_law, w.before args s = true) (hR : rm.frames + 1 ≤ R.frames ∧ 8 + (4 + 11) + rm.locals ≤ R.locals) : CallB R s args RX2 64 yX2_unlike cX2_unlike 4 (some .int) (Cond.code yX2_unlike cX2_unlike 4 (some .int) :: wsL_law) rm rm.cells rm.slots 2 ∧ (Cond.static yX2_unlike).before args s = true := va_cwS 2 hts (km_app (km_three km_114 km_115 km_5) (km_in km_116)) rfl rfl rfl (by decide +kernel) hR
set_option maxHeartbeats 4000000 in
set_option maxRecDepth 100000 in
theorem sq_isItem (l : Launch) (dC : Nat → ClassId) (dI : Nat → Nat → Nat) (A : Nat → Prop) (cI cA cZ : ClassId) (rest : va_W) (c0 c1 c2 c3 c4 c5 c6 : Nat × va_E) (y : Nat → Nat) (n : Nat) (hn : n ≤ 40) (ar : Nat) (gl : Int32) (lo pg ca : Int32) (ac : Nat) (hw : Int32) (K F T Ln Wy Fo Tk Ne : Nat → Int32) (x : Int32)  : Met l yX2_isItem (Cond.code yX2_isItem cX2_isItem 2 (some .boolean) :: wsL_law) ({ frames := 0, cells := 0, slots := 0, locals := 0 } : Room) (va_Pc [.ref (y 0), .int x] (fx_Pre (dC, dI) classes (fq_ty cI cA cZ) A (wM c0 c1 c2 c3 c4 c5 c6 y cI cZ n ar gl lo pg ca ac hw K F T Ln Wy Fo Tk Ne ++ rest))) (vp_Si (fun r => (r = 1 ∧ ∃ j, j < n ∧ x = nI j) ∨ (r = 0 ∧ ∀ j, j < n → x ≠ nI j))) 0 0 (fun _ => False) := by
  refine Met.ofW (cc := cX2_isItem) (maxL := 2) (ret := (some .boolean)) (by decide) rfl ?_
  intro p e s m args below meth c s₁ B0 hml hv
  obtain ⟨rfl, hA, hP, hK, hD, hN⟩ := hv
  have hx := B0.exec
  have hb := B0.bytes
  have hr := B0.returns
  have hts0 := atoms_spec (ws := (Cond.code yX2_isItem cX2_isItem 2 (some .boolean) :: wsL_law)) B0.pre
  have hts := fun w (h : w ∈ wsL_law) => hts0 w (List.mem_cons_of_mem _ h)
  have hown : s.vm.findClass RX2 = some m.cls := findClass_of_methodNamed B0.named
  have hlocks := B0.notSynchronized
  have hF : CallFix p m c cX2_isItem 2 s ([.ref (y 0), .int x] : List Value).toArray wsL_law RX2 := ⟨hx, hb, hml, hown, hts⟩
  have hS : va_S A s.heap s.heap [] := va_S.rf
  have hl := lv_entry ([.ref (y 0), .int x]) (n := 2) (Nat.le_of_ble_eq_true rfl)
  rw [lg_entry_eq]
  generalize (lg_sl ([.ref (y 0), .int x]) ++ List.replicate (2 - (lg_sl ([.ref (y 0), .int x])).length) Slot.unset).toArray = ls at hl ⊢
  have hl : lv_has ls 2 [(0, .ref (y 0)), (1, .int x)] := hl
  have hn31 : n < 2 ^ 31 := by omega
  refine lv_iload_n hx hb dX2_isItem_0 rfl (lv_at hl 1 rfl) ?_
  refine lv_if_lt (tgt := 16) hx hb dX2_isItem_1 (by decide) (fun c_1 => ?_) (fun c_1 => ?_)
  · refine lv_iconst (v := 0) hx hb dX2_isItem_16 (by decide) ?_
    exact fx_bret hx hb hr (Or.inl rfl) hlocks dX2_isItem_17 (Or.inr ⟨rfl, fun j hj e => absurd c_1 (e ▸ nI_pos (by omega))⟩)
  · refine lv_iload_n hx hb dX2_isItem_4 rfl (lv_at hl 1 rfl) ?_
    refine lv_aload_n hx hb dX2_isItem_5 rfl (lv_at hl 0 rfl) ?_
    refine va_get (D := (dC, dI)) (ci := 2) (v := .int (nI n)) (C := RX2) (T := TX2) (N := 16) hx hb hts inlX2 hown hK hP 7 rfl rfl 0 (by decide) (hts _ km_51) (fun _ h9 => h9) rfl dX2_isItem_6 ?_
    refine lv_icmp_ge (tgt := 16) hx hb dX2_isItem_9 (by decide) (fun c_9 => ?_) (fun c_9 => ?_)
    · refine lv_iconst (v := 0) hx hb dX2_isItem_16 (by decide) ?_
      exact fx_bret hx hb hr (Or.inl rfl) hlocks dX2_isItem_17 (Or.inr ⟨rfl, fun j hj e => absurd c_9 (e ▸ nI_ge hj hn31)⟩)
    · refine lv_iconst (v := 1) hx hb dX2_isItem_12 (by decide) ?_
      refine lv_goto (tgt := 17) hx hb dX2_isItem_13 (by decide) ?_
      exact fx_bret hx hb hr (Or.inr rfl) hlocks dX2_isItem_17 (Or.inl ⟨rfl, fq_ix hn31 c_1 c_9⟩)
set_option maxHeartbeats 4000000 in
set_option maxRecDepth 100000 in
theorem sq_isThere (l : Launch) (dC : Nat → ClassId) (dI : Nat → Nat → Nat) (A : Nat → Prop) (cI cA cZ : ClassId) (rest : va_W) (c0 c1 c2 c3 c4 c5 c6 : Nat × va_E) (y : Nat → Nat) (n : Nat) (hn : n ≤ 40) (ar : Nat) (gl : Int32) (lo pg ca : Int32) (ac : Nat) (hw : Int32) (K F T Ln Wy Fo Tk Ne : Nat → Int32) (x : Int32)  : Met l yX2_isThere (Cond.code yX2_isThere cX2_isThere 2 (some .boolean) :: wsL_law) ({ frames := 1, cells := 0, slots := 0, locals := 21 } : Room) (va_Pc [.ref (y 0), .int x] (fx_Pre (dC, dI) classes (fq_ty cI cA cZ) A (wM c0 c1 c2 c3 c4 c5 c6 y cI cZ n ar gl lo pg ca ac hw K F T Ln Wy Fo Tk Ne ++ rest))) (vp_Si (fun r => (r = 1 ∧ ∃ j, j < n ∧ x = nI j ∧ K j ≠ -1) ∨ (r = 0 ∧ ∀ j, j < n → x = nI j → K j = -1))) 0 0 (fun _ => False) := by
  refine Met.ofW (cc := cX2_isThere) (maxL := 2) (ret := (some .boolean)) (by decide) rfl ?_
  intro p e s m args below meth c s₁ B0 hml hv
  obtain ⟨rfl, hA, hP, hK, hD, hN⟩ := hv
  have hx := B0.exec
  have hb := B0.bytes
  have hr := B0.returns
  have hts0 := atoms_spec (ws := (Cond.code yX2_isThere cX2_isThere 2 (some .boolean) :: wsL_law)) B0.pre
  have hts := fun w (h : w ∈ wsL_law) => hts0 w (List.mem_cons_of_mem _ h)
  have hown : s.vm.findClass RX2 = some m.cls := findClass_of_methodNamed B0.named
  have hlocks := B0.notSynchronized
  have hF : CallFix p m c cX2_isThere 2 s ([.ref (y 0), .int x] : List Value).toArray wsL_law RX2 := ⟨hx, hb, hml, hown, hts⟩
  have hS : va_S A s.heap s.heap [] := va_S.rf
  have hl := lv_entry ([.ref (y 0), .int x]) (n := 2) (Nat.le_of_ble_eq_true rfl)
  rw [lg_entry_eq]
  generalize (lg_sl ([.ref (y 0), .int x]) ++ List.replicate (2 - (lg_sl ([.ref (y 0), .int x])).length) Slot.unset).toArray = ls at hl ⊢
  have hl : lv_has ls 2 [(0, .ref (y 0)), (1, .int x)] := hl
  have hn31 : n < 2 ^ 31 := by omega
  refine lv_aload_n hx hb dX2_isThere_0 rfl (lv_at hl 0 rfl) ?_
  refine lv_iload_n hx hb dX2_isThere_1 rfl (lv_at hl 1 rfl) ?_
  refine fx_Vs (rest := []) (sq_isItem l dC dI A cI cA cZ rest c0 c1 c2 c3 c4 c5 c6 y n hn ar gl lo pg ca ac hw K F T Ln Wy Fo Tk Ne x) hF (cw_RX2_51 hts ⟨Nat.le_of_ble_eq_true rfl, Nat.le_of_ble_eq_true rfl⟩) hA hS hP hK hD hN 7 2 rfl rfl rfl hl.1 rfl (Nat.le_of_ble_eq_true rfl) dX2_isThere_2 ⟨Nat.le_of_ble_eq_true rfl, Nat.le_of_ble_eq_true rfl⟩ (fun r h => ?_)
  rcases h with ⟨rfl, ⟨j, hj, rfl⟩⟩ | ⟨rfl, h⟩
  · refine lv_if_eq (tgt := 22) hx hb dX2_isThere_5 (by decide) (fun h9 => absurd h9 (by decide)) (fun _ => ?_)
    refine lv_aload_n hx hb dX2_isThere_8 rfl (lv_at hl 0 rfl) ?_
    refine va_get (D := (dC, dI)) (ci := 2) (v := .ref (y 1)) (C := RX2) (T := TX2) (N := 16) hx hb hts inlX2 hown hK hP 7 rfl rfl 3 (by decide) (hts _ km_42) (fun _ h9 => h9) rfl dX2_isThere_9 ?_
    refine lv_iload_n hx hb dX2_isThere_12 rfl (lv_at hl 1 rfl) ?_
    refine fx_ald hx hb hK hP 8 0 rfl rfl j rfl (by omega) (by decide) dX2_isThere_13 ?_
    refine lv_iconst (v := (-1)) hx hb dX2_isThere_14 (by decide) ?_
    refine lv_icmp_eq (tgt := 22) hx hb dX2_isThere_15 (by decide) (fun c_15 => ?_) (fun c_15 => ?_)
    · refine lv_iconst (v := 0) hx hb dX2_isThere_22 (by decide) ?_
      exact fx_bret hx hb hr (Or.inl rfl) hlocks dX2_isThere_23 (Or.inr ⟨rfl, fun j9 hj9 e => by rw [← (nI_eq (by omega) (by omega)).mp e]; exact c_15⟩)
    · refine lv_iconst (v := 1) hx hb dX2_isThere_18 (by decide) ?_
      refine lv_goto (tgt := 23) hx hb dX2_isThere_19 (by decide) ?_
      exact fx_bret hx hb hr (Or.inr rfl) hlocks dX2_isThere_23 (Or.inl ⟨rfl, j, hj, rfl, c_15⟩)
  · refine lv_if_eq (tgt := 22) hx hb dX2_isThere_5 (by decide) (fun _ => ?_) (fun h9 => absurd h9 (by decide))
    refine lv_iconst (v := 0) hx hb dX2_isThere_22 (by decide) ?_
    exact fx_bret hx hb hr (Or.inl rfl) hlocks dX2_isThere_23 (Or.inr ⟨rfl, fun j hj e => absurd e (h j hj)⟩)
set_option maxHeartbeats 4000000 in
set_option maxRecDepth 100000 in
theorem sq_unlike (l : Launch) (a b : Int32) (ha : ¬ a < 0) (hb0 : ¬ b < 0) : Met l yX2_unlike (Cond.code yX2_unlike cX2_unlike 4 (some .int) :: wsL_law) ({ frames := 0, cells := 0, slots := 0, locals := 0 } : Room) (va_Pc [.int a, .int b] (fun _ => True)) (vp_Si (fun r => r = nI (fqk a b))) 0 0 (fun _ => False) := by
  refine Met.ofW (cc := cX2_unlike) (maxL := 4) (ret := (some .int)) (by decide) rfl ?_
  intro p e s m args below meth c s₁ B0 hml hv
  obtain ⟨rfl, -⟩ := hv
  have hx := B0.exec
  have hb := B0.bytes
  have hr := B0.returns
  have hts0 := atoms_spec (ws := (Cond.code yX2_unlike cX2_unlike 4 (some .int) :: wsL_law)) B0.pre
  have hts := fun w (h : w ∈ wsL_law) => hts0 w (List.mem_cons_of_mem _ h)
  have hown : s.vm.findClass RX2 = some m.cls := findClass_of_methodNamed B0.named
  have hlocks := B0.notSynchronized
  have hF : CallFix p m c cX2_unlike 4 s ([.int a, .int b] : List Value).toArray wsL_law RX2 := ⟨hx, hb, hml, hown, hts⟩
  have hl := lv_entry ([.int a, .int b]) (n := 4) (Nat.le_of_ble_eq_true rfl)
  rw [lg_entry_eq]
  generalize (lg_sl ([.int a, .int b]) ++ List.replicate (4 - (lg_sl ([.int a, .int b])).length) Slot.unset).toArray = ls at hl ⊢
  have hl : lv_has ls 4 [(0, .int a), (1, .int b)] := hl
  obtain ⟨x, hx31, ex⟩ := nI_of ha
  obtain ⟨w, hw31, ew⟩ := nI_of hb0
  have ez : fqk a b = fqbl (x ^^^ w) := by unfold fqk; rw [ex, ew, fqn_nI hx31, fqn_nI hw31]
  have hz : x ^^^ w < 2 ^ 31 := Nat.xor_lt_two_pow hx31 hw31
  have K0 : ∀ (d i : Nat) (ls : Array Slot), d + i = 31 → lv_has ls 4 [(0, .int a), (1, .int b), (2, .int (nI (fqbl ((x ^^^ w) % 2 ^ i)))), (3, .int (nI i))] → W p l e (headSpec (Cond.code yX2_unlike cX2_unlike 4 (some .int) :: wsL_law) ({ frames := 0, cells := 0, slots := 0, locals := 0 } : Room)).room s m ([.int a, .int b] : List Value).toArray below meth c s.heap [] 0 0 (MQ below (vp_Si (fun r => r = nI (fqk a b))) ([.int a, .int b] : List Value).toArray s 0 0 (fun _ => False)) (F0 m 4 ls []) := by
    intro d
    induction d with
    | zero =>
      intro i  ls hdi  hl
      have e0 : i = 31 := by omega
      subst e0
      refine lv_iload_n hx hb dX2_unlike_4 rfl (lv_at hl 3 rfl) ?_
      refine lv_bipush (v := 31) hx hb dX2_unlike_5 (by decide) ?_
      refine lv_icmp_ge (tgt := 37) hx hb dX2_unlike_7 (by decide) (fun c_7 => ?_) (fun c_7 => ?_)
      · refine lv_iload_n hx hb dX2_unlike_37 rfl (lv_at hl 2 rfl) ?_
        exact fx_sret hx hb hr hlocks dX2_unlike_38 (by rw [ez, Nat.mod_eq_of_lt hz])
      · exact absurd (Int32.le_refl _) c_7
    | succ d ih =>
      intro i  ls hdi  hl
      have hi : i < 31 := by omega
      refine lv_iload_n hx hb dX2_unlike_4 rfl (lv_at hl 3 rfl) ?_
      refine lv_bipush (v := 31) hx hb dX2_unlike_5 (by decide) ?_
      refine lv_icmp_ge (tgt := 37) hx hb dX2_unlike_7 (by decide) (fun c_7 => ?_) (fun c_7 => ?_)
      · exact absurd (show nI 31 ≤ nI i from c_7) (nI_ge hi (by decide))
      · refine lv_iload_n hx hb dX2_unlike_10 rfl (lv_at hl 0 rfl) ?_
        refine lv_iload_n hx hb dX2_unlike_11 rfl (lv_at hl 3 rfl) ?_
        refine lv_ishr hx hb dX2_unlike_12 ?_
        refine fx_is (show a >>> (nI i &&& 31) = nI (x / 2 ^ i) by rw [ex]; exact pk_shrN hx31 _ i (mq_sl i (by omega))) ?_
        refine lv_iconst (v := 1) hx hb dX2_unlike_13 (by decide) ?_
        refine lv_iand hx hb dX2_unlike_14 ?_
        refine fx_is (mq_and1 (k := x / 2 ^ i) (Nat.lt_of_le_of_lt (Nat.div_le_self _ _) hx31)) ?_
        refine lv_iload_n hx hb dX2_unlike_15 rfl (lv_at hl 1 rfl) ?_
        refine lv_iload_n hx hb dX2_unlike_16 rfl (lv_at hl 3 rfl) ?_
        refine lv_ishr hx hb dX2_unlike_17 ?_
        refine fx_is (show b >>> (nI i &&& 31) = nI (w / 2 ^ i) by rw [ew]; exact pk_shrN hw31 _ i (mq_sl i (by omega))) ?_
        refine lv_iconst (v := 1) hx hb dX2_unlike_18 (by decide) ?_
        refine lv_iand hx hb dX2_unlike_19 ?_
        refine fx_is (mq_and1 (k := w / 2 ^ i) (Nat.lt_of_le_of_lt (Nat.div_le_self _ _) hw31)) ?_
        refine lv_icmp_eq (tgt := 29) hx hb dX2_unlike_20 (by decide) (fun c_20 => ?_) (fun c_20 => ?_)
        · have c_20 := (nI_eq (by omega) (by omega)).mp c_20
          have hbit := mq_bit (x ^^^ w) i
          rw [if_neg (fun h9 => (mq_xbit x w i).mp h9 c_20)] at hbit
          refine lv_iload_n hx hb dX2_unlike_29 rfl (lv_at hl 2 rfl) ?_
          refine lv_istore_n (lv' := [(2, .int (nI (fqbl ((x ^^^ w) % 2 ^ i)))), (0, .int a), (1, .int b), (3, .int (nI i))]) hx hb dX2_unlike_30 rfl hl (by decide) rfl (fun ls hl => ?_)
          refine lv_iinc (v := nI (i + 1)) (lv' := [(3, .int (nI (i + 1))), (2, .int (nI (fqbl ((x ^^^ w) % 2 ^ i)))), (0, .int a), (1, .int b)]) hx hb dX2_unlike_31 hl (k := 3) rfl (nI_1 i) (by decide) rfl (fun ls hl => ?_)
          refine lv_goto (tgt := 4) hx hb dX2_unlike_34 (by decide) ?_
          rw [show nI (fqbl ((x ^^^ w) % 2 ^ i)) = nI (fqbl ((x ^^^ w) % 2 ^ (i + 1))) by rw [hbit]] at hl
          exact ih (i + 1) ls (by omega) (lv_sub hl [2, 3, 1, 0] rfl)
        · have c_20 := fun h9 => c_20 ((nI_eq (by omega) (by omega)).mpr h9)
          have hbit := mq_bit (x ^^^ w) i
          rw [if_pos ((mq_xbit x w i).mpr c_20)] at hbit
          refine lv_iload_n hx hb dX2_unlike_23 rfl (lv_at hl 3 rfl) ?_
          refine lv_iconst (v := 1) hx hb dX2_unlike_24 (by decide) ?_
          refine lv_iadd hx hb dX2_unlike_25 ?_
          refine lv_goto (tgt := 30) hx hb dX2_unlike_26 (by decide) ?_
          refine lv_istore_n (lv' := [(2, .int ((nI i) + 1)), (0, .int a), (1, .int b), (3, .int (nI i))]) hx hb dX2_unlike_30 rfl hl (by decide) rfl (fun ls hl => ?_)
          refine lv_iinc (v := nI (i + 1)) (lv' := [(3, .int (nI (i + 1))), (2, .int ((nI i) + 1)), (0, .int a), (1, .int b)]) hx hb dX2_unlike_31 hl (k := 3) rfl (nI_1 i) (by decide) rfl (fun ls hl => ?_)
          refine lv_goto (tgt := 4) hx hb dX2_unlike_34 (by decide) ?_
          rw [show (nI i) + 1 = nI (fqbl ((x ^^^ w) % 2 ^ (i + 1))) by rw [hbit]; exact nI_1 i] at hl
          exact ih (i + 1) ls (by omega) (lv_sub hl [2, 3, 1, 0] rfl)
  refine lv_iconst (v := 0) hx hb dX2_unlike_0 (by decide) ?_
  refine lv_istore_n (lv' := [(2, .int 0), (0, .int a), (1, .int b)]) hx hb dX2_unlike_1 rfl hl (by decide) rfl (fun ls hl => ?_)
  refine lv_iconst (v := 0) hx hb dX2_unlike_2 (by decide) ?_
  refine lv_istore_n (lv' := [(3, .int 0), (2, .int 0), (0, .int a), (1, .int b)]) hx hb dX2_unlike_3 rfl hl (by decide) rfl (fun ls hl => ?_)
  exact K0 31 0 ls rfl (lv_sub hl [2, 3, 1, 0] (by rw [show (x ^^^ w) % 2 ^ 0 = 0 from Nat.mod_one _]; rfl))
set_option maxHeartbeats 4000000 in
set_option maxRecDepth 100000 in
theorem sq_clear (l : Launch) (dC : Nat → ClassId) (dI : Nat → Nat → Nat) (A : Nat → Prop) (cI cA cZ : ClassId) (rest : va_W) (c0 c1 c2 c3 c4 c5 c6 : Nat × va_E) (y : Nat → Nat) (n : Nat) (hn : n ≤ 40) (ar : Nat) (gl : Int32) (lo pg ca : Int32) (ac : Nat) (hw : Int32) (K F T Ln Wy Fo Tk Ne : Nat → Int32)  : Met l yX2_clear (Cond.code yX2_clear cX2_clear 2 none :: wsL_law) ({ frames := 0, cells := 0, slots := 0, locals := 0 } : Room) (va_Pc [.ref (y 0)] (fx_Pre (dC, dI) classes (fq_ty cI cA cZ) A (wM c0 c1 c2 c3 c4 c5 c6 y cI cZ n ar gl lo pg ca ac hw K F T Ln Wy Fo Tk Ne ++ rest))) (va_Qv (S := mqQ) (fun u => u = mqclear (lo, pg, ca, K)) (fx_B (dC, dI) classes (fq_ty cI cA cZ) A (fun u : mqQ => wM c0 c1 c2 c3 c4 c5 c6 y cI cZ n ar gl u.1 u.2.1 u.2.2.1 ac hw u.2.2.2 F T Ln Wy Fo Tk Ne ++ rest)) A) 0 0 A := by
  refine Met.ofW (cc := cX2_clear) (maxL := 2) (ret := none) (by decide) rfl ?_
  intro p e s m args below meth c s₁ B0 hml hv
  obtain ⟨rfl, hA, hP, hK, hD, hN⟩ := hv
  have hx := B0.exec
  have hb := B0.bytes
  have hr := B0.returns
  have hts0 := atoms_spec (ws := (Cond.code yX2_clear cX2_clear 2 none :: wsL_law)) B0.pre
  have hts := fun w (h : w ∈ wsL_law) => hts0 w (List.mem_cons_of_mem _ h)
  have hown : s.vm.findClass RX2 = some m.cls := findClass_of_methodNamed B0.named
  have hlocks := B0.notSynchronized
  have hF : CallFix p m c cX2_clear 2 s ([.ref (y 0)] : List Value).toArray wsL_law RX2 := ⟨hx, hb, hml, hown, hts⟩
  have hS : va_S A s.heap s.heap [] := va_S.rf
  have hl := lv_entry ([.ref (y 0)]) (n := 2) (Nat.le_of_ble_eq_true rfl)
  rw [lg_entry_eq]
  generalize (lg_sl ([.ref (y 0)]) ++ List.replicate (2 - (lg_sl ([.ref (y 0)])).length) Slot.unset).toArray = ls at hl ⊢
  have hl : lv_has ls 2 [(0, .ref (y 0))] := hl
  have hn31 : n < 2 ^ 31 := by omega
  have K0 : ∀ (d i : Nat) (H : Heap) (locs : List Loc) (ls : Array Slot), d + i = 40 → va_P (dC, dI) classes (wM c0 c1 c2 c3 c4 c5 c6 y cI cZ n ar gl lo pg ca ac hw (fun j => if j < i then -1 else K j) F T Ln Wy Fo Tk Ne ++ rest) H → va_D A (wM c0 c1 c2 c3 c4 c5 c6 y cI cZ n ar gl lo pg ca ac hw (fun j => if j < i then -1 else K j) F T Ln Wy Fo Tk Ne ++ rest) → va_S A s.heap H locs → lv_has ls 2 [(0, .ref (y 0)), (1, .int (nI i))] → W p l e (headSpec (Cond.code yX2_clear cX2_clear 2 none :: wsL_law) ({ frames := 0, cells := 0, slots := 0, locals := 0 } : Room)).room s m ([.ref (y 0)] : List Value).toArray below meth c H locs 0 0 (MQ below (va_Qv (S := mqQ) (fun u => u = mqclear (lo, pg, ca, K)) (fx_B (dC, dI) classes (fq_ty cI cA cZ) A (fun u : mqQ => wM c0 c1 c2 c3 c4 c5 c6 y cI cZ n ar gl u.1 u.2.1 u.2.2.1 ac hw u.2.2.2 F T Ln Wy Fo Tk Ne ++ rest)) A) ([.ref (y 0)] : List Value).toArray s 0 0 A) (F0 m 2 ls []) := by
    intro d
    induction d with
    | zero =>
      intro i  H locs ls hdi  hP hD hS hl
      have e0 : i = 40 := by omega
      subst e0
      refine lv_iload_n hx hb dX2_clear_2 rfl (lv_at hl 1 rfl) ?_
      refine lv_bipush (v := 40) hx hb dX2_clear_3 (by decide) ?_
      refine lv_icmp_ge (tgt := 21) hx hb dX2_clear_5 (by decide) (fun c_5 => ?_) (fun c_5 => ?_)
      · refine lv_aload_n hx hb dX2_clear_21 rfl (lv_at hl 0 rfl) ?_
        refine lv_iconst (v := 0) hx hb dX2_clear_22 (by decide) ?_
        refine va_put (D := (dC, dI)) (ci := 2) (v := .int 0) (ty := .int) (C := RX2) (T := TX2) (N := 16) hx hb hts inlX2 tyX2 tyX2_ok nmX2 hown hK hP hD hS 7 rfl rfl 4 (by decide) (hts _ km_58) (fun _ h9 => h9) rfl (by decide +kernel) rfl rfl (Nat.le_of_ble_eq_true rfl) dX2_clear_23 (fun H locs hP hD hS => ?_)
        have hP : va_P (dC, dI) classes (wM c0 c1 c2 c3 c4 c5 c6 y cI cZ n ar gl 0 pg ca ac hw (fun j => if j < 40 then -1 else K j) F T Ln Wy Fo Tk Ne ++ rest) H := hP
        have hD : va_D A (wM c0 c1 c2 c3 c4 c5 c6 y cI cZ n ar gl 0 pg ca ac hw (fun j => if j < 40 then -1 else K j) F T Ln Wy Fo Tk Ne ++ rest) := hD
        exact fx_vret hx hb hr hlocks hK hS dX2_clear_26 (0, pg, ca, (fun j => if j < 40 then -1 else K j)) (rfl) hP hD
      · exact absurd (Int32.le_refl _) c_5
    | succ d ih =>
      intro i  H locs ls hdi  hP hD hS hl
      have hi : i < 40 := by omega
      refine lv_iload_n hx hb dX2_clear_2 rfl (lv_at hl 1 rfl) ?_
      refine lv_bipush (v := 40) hx hb dX2_clear_3 (by decide) ?_
      refine lv_icmp_ge (tgt := 21) hx hb dX2_clear_5 (by decide) (fun c_5 => ?_) (fun c_5 => ?_)
      · exact absurd (show nI 40 ≤ nI i from c_5) (nI_ge hi (by decide))
      · refine lv_aload_n hx hb dX2_clear_8 rfl (lv_at hl 0 rfl) ?_
        refine va_get (D := (dC, dI)) (ci := 2) (v := .ref (y 1)) (C := RX2) (T := TX2) (N := 16) hx hb hts inlX2 hown hK hP 7 rfl rfl 3 (by decide) (hts _ km_42) (fun _ h9 => h9) rfl dX2_clear_9 ?_
        refine lv_iload_n hx hb dX2_clear_12 rfl (lv_at hl 1 rfl) ?_
        refine lv_iconst (v := (-1)) hx hb dX2_clear_13 (by decide) ?_
        refine fx_ast hx hb hK hP hD hS 8 0 rfl rfl i rfl hi (by decide) dX2_clear_14 (fun H locs hP hD hS => ?_)
        have hP : va_P (dC, dI) classes (wM c0 c1 c2 c3 c4 c5 c6 y cI cZ n ar gl lo pg ca ac hw (upd (fun j => if j < i then -1 else K j) i (-1)) F T Ln Wy Fo Tk Ne ++ rest) H := hP
        have hD : va_D A (wM c0 c1 c2 c3 c4 c5 c6 y cI cZ n ar gl lo pg ca ac hw (upd (fun j => if j < i then -1 else K j) i (-1)) F T Ln Wy Fo Tk Ne ++ rest) := hD
        refine lv_iinc (v := nI (i + 1)) (lv' := [(1, .int (nI (i + 1))), (0, .ref (y 0))]) hx hb dX2_clear_15 hl (k := 1) rfl (nI_1 i) (by decide) rfl (fun ls hl => ?_)
        refine lv_goto (tgt := 2) hx hb dX2_clear_18 (by decide) ?_
        rw [fq_fills] at hP hD
        exact ih (i + 1) H locs ls (by omega) hP hD hS (lv_sub hl [1, 0] rfl)
  refine lv_iconst (v := 0) hx hb dX2_clear_0 (by decide) ?_
  refine lv_istore_n (lv' := [(1, .int 0), (0, .ref (y 0))]) hx hb dX2_clear_1 rfl hl (by decide) rfl (fun ls hl => ?_)
  exact K0 40 0 s.heap [] ls rfl (by rw [fq_fill0]; exact hP) (by rw [fq_fill0]; exact hD) hS (lv_sub hl [1, 0] rfl)
set_option maxHeartbeats 4000000 in
set_option maxRecDepth 100000 in
theorem sq_push (l : Launch) (dC : Nat → ClassId) (dI : Nat → Nat → Nat) (A : Nat → Prop) (cI cA cZ : ClassId) (rest : va_W) (c0 c1 c2 c3 c4 c5 c6 : Nat × va_E) (y : Nat → Nat) (n : Nat) (hn : n ≤ 40) (ar : Nat) (gl : Int32) (lo pg ca : Int32) (ac : Nat) (hw : Int32) (K F T Ln Wy Fo Tk Ne : Nat → Int32) (x key : Int32)  : Met l yX2_push (Cond.code yX2_push cX2_push 3 (some .int) :: wsL_law) ({ frames := 1, cells := 0, slots := 0, locals := 21 } : Room) (va_Pc [.ref (y 0), .int x, .int key] (fx_Pre (dC, dI) classes (fq_ty cI cA cZ) A (wM c0 c1 c2 c3 c4 c5 c6 y cI cZ n ar gl lo pg ca ac hw K F T Ln Wy Fo Tk Ne ++ rest))) (va_Qi (S := mqQ) (fun r u => (r, u) = mqpush n (lo, pg, ca, K) x key) (fx_B (dC, dI) classes (fq_ty cI cA cZ) A (fun u : mqQ => wM c0 c1 c2 c3 c4 c5 c6 y cI cZ n ar gl u.1 u.2.1 u.2.2.1 ac hw u.2.2.2 F T Ln Wy Fo Tk Ne ++ rest)) A) 0 0 A := by
  refine Met.ofW (cc := cX2_push) (maxL := 3) (ret := (some .int)) (by decide) rfl ?_
  intro p e s m args below meth c s₁ B0 hml hv
  obtain ⟨rfl, hA, hP, hK, hD, hN⟩ := hv
  have hx := B0.exec
  have hb := B0.bytes
  have hr := B0.returns
  have hts0 := atoms_spec (ws := (Cond.code yX2_push cX2_push 3 (some .int) :: wsL_law)) B0.pre
  have hts := fun w (h : w ∈ wsL_law) => hts0 w (List.mem_cons_of_mem _ h)
  have hown : s.vm.findClass RX2 = some m.cls := findClass_of_methodNamed B0.named
  have hlocks := B0.notSynchronized
  have hF : CallFix p m c cX2_push 3 s ([.ref (y 0), .int x, .int key] : List Value).toArray wsL_law RX2 := ⟨hx, hb, hml, hown, hts⟩
  have hS : va_S A s.heap s.heap [] := va_S.rf
  have hl := lv_entry ([.ref (y 0), .int x, .int key]) (n := 3) (Nat.le_of_ble_eq_true rfl)
  rw [lg_entry_eq]
  generalize (lg_sl ([.ref (y 0), .int x, .int key]) ++ List.replicate (3 - (lg_sl ([.ref (y 0), .int x, .int key])).length) Slot.unset).toArray = ls at hl ⊢
  have hl : lv_has ls 3 [(0, .ref (y 0)), (1, .int x), (2, .int key)] := hl
  have hn31 : n < 2 ^ 31 := by omega
  refine lv_aload_n hx hb dX2_push_0 rfl (lv_at hl 0 rfl) ?_
  refine lv_iload_n hx hb dX2_push_1 rfl (lv_at hl 1 rfl) ?_
  refine fx_Vs (rest := []) (sq_isItem l dC dI A cI cA cZ rest c0 c1 c2 c3 c4 c5 c6 y n hn ar gl lo pg ca ac hw K F T Ln Wy Fo Tk Ne x) hF (cw_RX2_51 hts ⟨Nat.le_of_ble_eq_true rfl, Nat.le_of_ble_eq_true rfl⟩) hA hS hP hK hD hN 7 2 rfl rfl rfl hl.1 rfl (Nat.le_of_ble_eq_true rfl) dX2_push_2 ⟨Nat.le_of_ble_eq_true rfl, Nat.le_of_ble_eq_true rfl⟩ (fun r h => ?_)
  rcases h with ⟨rfl, ⟨j, hj, rfl⟩⟩ | ⟨rfl, h⟩
  · refine lv_if_eq (tgt := 18) hx hb dX2_push_5 (by decide) (fun h9 => absurd h9 (by decide)) (fun _ => ?_)
    refine lv_aload_n hx hb dX2_push_8 rfl (lv_at hl 0 rfl) ?_
    refine va_get (D := (dC, dI)) (ci := 2) (v := .ref (y 1)) (C := RX2) (T := TX2) (N := 16) hx hb hts inlX2 hown hK hP 7 rfl rfl 3 (by decide) (hts _ km_42) (fun _ h9 => h9) rfl dX2_push_9 ?_
    refine lv_iload_n hx hb dX2_push_12 rfl (lv_at hl 1 rfl) ?_
    refine fx_ald hx hb hK hP 8 0 rfl rfl j rfl (by omega) (by decide) dX2_push_13 ?_
    refine lv_iconst (v := (-1)) hx hb dX2_push_14 (by decide) ?_
    refine lv_icmp_eq (tgt := 20) hx hb dX2_push_15 (by decide) (fun c_15 => ?_) (fun c_15 => ?_)
    · refine lv_iload_n hx hb dX2_push_20 rfl (lv_at hl 2 rfl) ?_
      refine lv_aload_n hx hb dX2_push_21 rfl (lv_at hl 0 rfl) ?_
      refine va_get (D := (dC, dI)) (ci := 2) (v := .int lo) (C := RX2) (T := TX2) (N := 16) hx hb hts inlX2 hown hK hP 7 rfl rfl 4 (by decide) (hts _ km_58) (fun _ h9 => h9) rfl dX2_push_22 ?_
      refine lv_icmp_ge (tgt := 31) hx hb dX2_push_25 (by decide) (fun c_25 => ?_) (fun c_25 => ?_)
      · refine lv_aload_n hx hb dX2_push_31 rfl (lv_at hl 0 rfl) ?_
        refine va_get (D := (dC, dI)) (ci := 2) (v := .ref (y 1)) (C := RX2) (T := TX2) (N := 16) hx hb hts inlX2 hown hK hP 7 rfl rfl 3 (by decide) (hts _ km_42) (fun _ h9 => h9) rfl dX2_push_32 ?_
        refine lv_iload_n hx hb dX2_push_35 rfl (lv_at hl 1 rfl) ?_
        refine lv_iload_n hx hb dX2_push_36 rfl (lv_at hl 2 rfl) ?_
        refine fx_ast hx hb hK hP hD hS 8 0 rfl rfl j rfl (by omega) (by decide) dX2_push_37 (fun H locs hP hD hS => ?_)
        have hP : va_P (dC, dI) classes (wM c0 c1 c2 c3 c4 c5 c6 y cI cZ n ar gl lo pg ca ac hw (upd K j key) F T Ln Wy Fo Tk Ne ++ rest) H := hP
        have hD : va_D A (wM c0 c1 c2 c3 c4 c5 c6 y cI cZ n ar gl lo pg ca ac hw (upd K j key) F T Ln Wy Fo Tk Ne ++ rest) := hD
        refine lv_aload_n hx hb dX2_push_38 rfl (lv_at hl 0 rfl) ?_
        refine lv_dup hx hb dX2_push_39 rfl ?_
        refine va_get (D := (dC, dI)) (ci := 2) (v := .int pg) (C := RX2) (T := TX2) (N := 16) hx hb hts inlX2 hown hK hP 7 rfl rfl 5 (by decide) (hts _ km_96) (fun _ h9 => h9) rfl dX2_push_40 ?_
        refine lv_iconst (v := 1) hx hb dX2_push_43 (by decide) ?_
        refine lv_iadd hx hb dX2_push_44 ?_
        refine va_put (D := (dC, dI)) (ci := 2) (v := .int (pg + 1)) (ty := .int) (C := RX2) (T := TX2) (N := 16) hx hb hts inlX2 tyX2 tyX2_ok nmX2 hown hK hP hD hS 7 rfl rfl 5 (by decide) (hts _ km_96) (fun _ h9 => h9) rfl (by decide +kernel) rfl rfl (Nat.le_of_ble_eq_true rfl) dX2_push_45 (fun H locs hP hD hS => ?_)
        have hP : va_P (dC, dI) classes (wM c0 c1 c2 c3 c4 c5 c6 y cI cZ n ar gl lo (pg + 1) ca ac hw (upd K j key) F T Ln Wy Fo Tk Ne ++ rest) H := hP
        have hD : va_D A (wM c0 c1 c2 c3 c4 c5 c6 y cI cZ n ar gl lo (pg + 1) ca ac hw (upd K j key) F T Ln Wy Fo Tk Ne ++ rest) := hD
        refine lv_aload_n hx hb dX2_push_48 rfl (lv_at hl 0 rfl) ?_
        refine lv_dup hx hb dX2_push_49 rfl ?_
        refine va_get (D := (dC, dI)) (ci := 2) (v := .int ca) (C := RX2) (T := TX2) (N := 16) hx hb hts inlX2 hown hK hP 7 rfl rfl 6 (by decide) (hts _ km_97) (fun _ h9 => h9) rfl dX2_push_50 ?_
        refine lv_iconst (v := 1) hx hb dX2_push_53 (by decide) ?_
        refine lv_iadd hx hb dX2_push_54 ?_
        refine va_put (D := (dC, dI)) (ci := 2) (v := .int (ca + 1)) (ty := .int) (C := RX2) (T := TX2) (N := 16) hx hb hts inlX2 tyX2 tyX2_ok nmX2 hown hK hP hD hS 7 rfl rfl 6 (by decide) (hts _ km_97) (fun _ h9 => h9) rfl (by decide +kernel) rfl rfl (Nat.le_of_ble_eq_true rfl) dX2_push_55 (fun H locs hP hD hS => ?_)
        have hP : va_P (dC, dI) classes (wM c0 c1 c2 c3 c4 c5 c6 y cI cZ n ar gl lo (pg + 1) (ca + 1) ac hw (upd K j key) F T Ln Wy Fo Tk Ne ++ rest) H := hP
        have hD : va_D A (wM c0 c1 c2 c3 c4 c5 c6 y cI cZ n ar gl lo (pg + 1) (ca + 1) ac hw (upd K j key) F T Ln Wy Fo Tk Ne ++ rest) := hD
        refine lv_iconst (v := 0) hx hb dX2_push_58 (by decide) ?_
        exact fx_iret hx hb hr hlocks hK hS dX2_push_59 (lo, pg + 1, ca + 1, upd K j key) (by unfold mqpush; rw [fqat_some hj hn31]; dsimp only; rw [if_pos c_15, if_neg (Int32.not_lt.mpr c_25)]) hP hD
      · refine lv_bipush (v := (-2)) hx hb dX2_push_28 (by decide) ?_
        exact fx_iret hx hb hr hlocks hK hS dX2_push_30 (lo, pg, ca, K) (by unfold mqpush; rw [fqat_some hj hn31]; dsimp only; rw [if_pos c_15, if_pos (Int32.not_le.mp c_25)]) hP hD
    · refine lv_iconst (v := (-1)) hx hb dX2_push_18 (by decide) ?_
      exact fx_iret hx hb hr hlocks hK hS dX2_push_19 (lo, pg, ca, K) (by unfold mqpush; rw [fqat_some hj hn31]; dsimp only; rw [if_neg c_15]) hP hD
  · refine lv_if_eq (tgt := 18) hx hb dX2_push_5 (by decide) (fun _ => ?_) (fun h9 => absurd h9 (by decide))
    refine lv_iconst (v := (-1)) hx hb dX2_push_18 (by decide) ?_
    exact fx_iret hx hb hr hlocks hK hS dX2_push_19 (lo, pg, ca, K) (by unfold mqpush; rw [fqat_none hn31 h]) hP hD
set_option maxHeartbeats 4000000 in
set_option maxRecDepth 100000 in
theorem sq_lower (l : Launch) (dC : Nat → ClassId) (dI : Nat → Nat → Nat) (A : Nat → Prop) (cI cA cZ : ClassId) (rest : va_W) (c0 c1 c2 c3 c4 c5 c6 : Nat × va_E) (y : Nat → Nat) (n : Nat) (hn : n ≤ 40) (ar : Nat) (gl : Int32) (lo pg ca : Int32) (ac : Nat) (hw : Int32) (K F T Ln Wy Fo Tk Ne : Nat → Int32) (x key : Int32) (hs : mqS n (lo, pg, ca, K)) : Met l yX2_lower (Cond.code yX2_lower cX2_lower 3 (some .int) :: wsL_law) ({ frames := 2, cells := 0, slots := 0, locals := 42 } : Room) (va_Pc [.ref (y 0), .int x, .int key] (fx_Pre (dC, dI) classes (fq_ty cI cA cZ) A (wM c0 c1 c2 c3 c4 c5 c6 y cI cZ n ar gl lo pg ca ac hw K F T Ln Wy Fo Tk Ne ++ rest))) (va_Qi (S := mqQ) (fun r u => (r, u) = mqlower n (lo, pg, ca, K) x key) (fx_B (dC, dI) classes (fq_ty cI cA cZ) A (fun u : mqQ => wM c0 c1 c2 c3 c4 c5 c6 y cI cZ n ar gl u.1 u.2.1 u.2.2.1 ac hw u.2.2.2 F T Ln Wy Fo Tk Ne ++ rest)) A) 0 0 A := by
  refine Met.ofW (cc := cX2_lower) (maxL := 3) (ret := (some .int)) (by decide) rfl ?_
  intro p e s m args below meth c s₁ B0 hml hv
  obtain ⟨rfl, hA, hP, hK, hD, hN⟩ := hv
  have hx := B0.exec
  have hb := B0.bytes
  have hr := B0.returns
  have hts0 := atoms_spec (ws := (Cond.code yX2_lower cX2_lower 3 (some .int) :: wsL_law)) B0.pre
  have hts := fun w (h : w ∈ wsL_law) => hts0 w (List.mem_cons_of_mem _ h)
  have hown : s.vm.findClass RX2 = some m.cls := findClass_of_methodNamed B0.named
  have hlocks := B0.notSynchronized
  have hF : CallFix p m c cX2_lower 3 s ([.ref (y 0), .int x, .int key] : List Value).toArray wsL_law RX2 := ⟨hx, hb, hml, hown, hts⟩
  have hS : va_S A s.heap s.heap [] := va_S.rf
  have hl := lv_entry ([.ref (y 0), .int x, .int key]) (n := 3) (Nat.le_of_ble_eq_true rfl)
  rw [lg_entry_eq]
  generalize (lg_sl ([.ref (y 0), .int x, .int key]) ++ List.replicate (3 - (lg_sl ([.ref (y 0), .int x, .int key])).length) Slot.unset).toArray = ls at hl ⊢
  have hl : lv_has ls 3 [(0, .ref (y 0)), (1, .int x), (2, .int key)] := hl
  have hn31 : n < 2 ^ 31 := by omega
  refine lv_aload_n hx hb dX2_lower_0 rfl (lv_at hl 0 rfl) ?_
  refine lv_iload_n hx hb dX2_lower_1 rfl (lv_at hl 1 rfl) ?_
  refine fx_Vs (rest := []) (sq_isThere l dC dI A cI cA cZ rest c0 c1 c2 c3 c4 c5 c6 y n hn ar gl lo pg ca ac hw K F T Ln Wy Fo Tk Ne x) hF (cw_RX2_61 hts ⟨Nat.le_of_ble_eq_true rfl, Nat.le_of_ble_eq_true rfl⟩) hA hS hP hK hD hN 7 2 rfl rfl rfl hl.1 rfl (Nat.le_of_ble_eq_true rfl) dX2_lower_2 ⟨Nat.le_of_ble_eq_true rfl, Nat.le_of_ble_eq_true rfl⟩ (fun r h => ?_)
  rcases h with ⟨rfl, ⟨j, hj, rfl, h8⟩⟩ | ⟨rfl, h⟩
  · refine lv_if_ne (tgt := 10) hx hb dX2_lower_5 (by decide) (fun _ => ?_) (fun h9 => absurd h9 (by decide))
    refine lv_iload_n hx hb dX2_lower_10 rfl (lv_at hl 2 rfl) ?_
    refine lv_aload_n hx hb dX2_lower_11 rfl (lv_at hl 0 rfl) ?_
    refine va_get (D := (dC, dI)) (ci := 2) (v := .int lo) (C := RX2) (T := TX2) (N := 16) hx hb hts inlX2 hown hK hP 7 rfl rfl 4 (by decide) (hts _ km_58) (fun _ h9 => h9) rfl dX2_lower_12 ?_
    refine lv_icmp_lt (tgt := 28) hx hb dX2_lower_15 (by decide) (fun c_15 => ?_) (fun c_15 => ?_)
    · refine lv_bipush (v := (-2)) hx hb dX2_lower_28 (by decide) ?_
      exact fx_iret hx hb hr hlocks hK hS dX2_lower_30 (lo, pg, ca, K) (by unfold mqlower; rw [fqat_some hj hn31]; dsimp only; rw [if_neg h8, if_pos c_15]) hP hD
    · refine lv_iload_n hx hb dX2_lower_18 rfl (lv_at hl 2 rfl) ?_
      refine lv_aload_n hx hb dX2_lower_19 rfl (lv_at hl 0 rfl) ?_
      refine va_get (D := (dC, dI)) (ci := 2) (v := .ref (y 1)) (C := RX2) (T := TX2) (N := 16) hx hb hts inlX2 hown hK hP 7 rfl rfl 3 (by decide) (hts _ km_42) (fun _ h9 => h9) rfl dX2_lower_20 ?_
      refine lv_iload_n hx hb dX2_lower_23 rfl (lv_at hl 1 rfl) ?_
      refine fx_ald hx hb hK hP 8 0 rfl rfl j rfl (by omega) (by decide) dX2_lower_24 ?_
      refine lv_icmp_le (tgt := 31) hx hb dX2_lower_25 (by decide) (fun c_25 => ?_) (fun c_25 => ?_)
      · refine lv_aload_n hx hb dX2_lower_31 rfl (lv_at hl 0 rfl) ?_
        refine lv_dup hx hb dX2_lower_32 rfl ?_
        refine va_get (D := (dC, dI)) (ci := 2) (v := .int pg) (C := RX2) (T := TX2) (N := 16) hx hb hts inlX2 hown hK hP 7 rfl rfl 5 (by decide) (hts _ km_96) (fun _ h9 => h9) rfl dX2_lower_33 ?_
        refine lv_iload_n hx hb dX2_lower_36 rfl (lv_at hl 2 rfl) ?_
        refine lv_aload_n hx hb dX2_lower_37 rfl (lv_at hl 0 rfl) ?_
        refine va_get (D := (dC, dI)) (ci := 2) (v := .int lo) (C := RX2) (T := TX2) (N := 16) hx hb hts inlX2 hown hK hP 7 rfl rfl 4 (by decide) (hts _ km_58) (fun _ h9 => h9) rfl dX2_lower_38 ?_
        refine fx_Ss (rest := [.int pg, .ref (y 0)]) (sq_unlike l key lo (fq_le0 c_15 hs.1) hs.1) hF (cw_RX2_64 hts ⟨Nat.le_of_ble_eq_true rfl, Nat.le_of_ble_eq_true rfl⟩) rfl hl.1 rfl (Nat.le_of_ble_eq_true rfl) dX2_lower_41 ⟨Nat.le_of_ble_eq_true rfl, Nat.le_of_ble_eq_true rfl⟩ (fun r9 h9 => ?_)
        subst h9
        refine lv_aload_n hx hb dX2_lower_44 rfl (lv_at hl 0 rfl) ?_
        refine va_get (D := (dC, dI)) (ci := 2) (v := .ref (y 1)) (C := RX2) (T := TX2) (N := 16) hx hb hts inlX2 hown hK hP 7 rfl rfl 3 (by decide) (hts _ km_42) (fun _ h9 => h9) rfl dX2_lower_45 ?_
        refine lv_iload_n hx hb dX2_lower_48 rfl (lv_at hl 1 rfl) ?_
        refine fx_ald hx hb hK hP 8 0 rfl rfl j rfl (by omega) (by decide) dX2_lower_49 ?_
        refine lv_aload_n hx hb dX2_lower_50 rfl (lv_at hl 0 rfl) ?_
        refine va_get (D := (dC, dI)) (ci := 2) (v := .int lo) (C := RX2) (T := TX2) (N := 16) hx hb hts inlX2 hown hK hP 7 rfl rfl 4 (by decide) (hts _ km_58) (fun _ h9 => h9) rfl dX2_lower_51 ?_
        refine fx_Ss (rest := [.int (nI (fqk key lo)), .int pg, .ref (y 0)]) (sq_unlike l (K j) lo (hs.2 j hj h8) hs.1) hF (cw_RX2_64 hts ⟨Nat.le_of_ble_eq_true rfl, Nat.le_of_ble_eq_true rfl⟩) rfl hl.1 rfl (Nat.le_of_ble_eq_true rfl) dX2_lower_54 ⟨Nat.le_of_ble_eq_true rfl, Nat.le_of_ble_eq_true rfl⟩ (fun r9 h9 => ?_)
        subst h9
        refine lv_icmp_eq (tgt := 64) hx hb dX2_lower_57 (by decide) (fun c_57 => ?_) (fun c_57 => ?_)
        · refine lv_iconst (v := 0) hx hb dX2_lower_64 (by decide) ?_
          refine lv_iadd hx hb dX2_lower_65 ?_
          refine va_put (D := (dC, dI)) (ci := 2) (v := .int (pg + 0)) (ty := .int) (C := RX2) (T := TX2) (N := 16) hx hb hts inlX2 tyX2 tyX2_ok nmX2 hown hK hP hD hS 7 rfl rfl 5 (by decide) (hts _ km_96) (fun _ h9 => h9) rfl (by decide +kernel) rfl rfl (Nat.le_of_ble_eq_true rfl) dX2_lower_66 (fun H locs hP hD hS => ?_)
          have hP : va_P (dC, dI) classes (wM c0 c1 c2 c3 c4 c5 c6 y cI cZ n ar gl lo (pg + 0) ca ac hw K F T Ln Wy Fo Tk Ne ++ rest) H := hP
          have hD : va_D A (wM c0 c1 c2 c3 c4 c5 c6 y cI cZ n ar gl lo (pg + 0) ca ac hw K F T Ln Wy Fo Tk Ne ++ rest) := hD
          refine lv_aload_n hx hb dX2_lower_69 rfl (lv_at hl 0 rfl) ?_
          refine va_get (D := (dC, dI)) (ci := 2) (v := .ref (y 1)) (C := RX2) (T := TX2) (N := 16) hx hb hts inlX2 hown hK hP 7 rfl rfl 3 (by decide) (hts _ km_42) (fun _ h9 => h9) rfl dX2_lower_70 ?_
          refine lv_iload_n hx hb dX2_lower_73 rfl (lv_at hl 1 rfl) ?_
          refine lv_iload_n hx hb dX2_lower_74 rfl (lv_at hl 2 rfl) ?_
          refine fx_ast hx hb hK hP hD hS 8 0 rfl rfl j rfl (by omega) (by decide) dX2_lower_75 (fun H locs hP hD hS => ?_)
          have hP : va_P (dC, dI) classes (wM c0 c1 c2 c3 c4 c5 c6 y cI cZ n ar gl lo (pg + 0) ca ac hw (upd K j key) F T Ln Wy Fo Tk Ne ++ rest) H := hP
          have hD : va_D A (wM c0 c1 c2 c3 c4 c5 c6 y cI cZ n ar gl lo (pg + 0) ca ac hw (upd K j key) F T Ln Wy Fo Tk Ne ++ rest) := hD
          refine lv_aload_n hx hb dX2_lower_76 rfl (lv_at hl 0 rfl) ?_
          refine lv_dup hx hb dX2_lower_77 rfl ?_
          refine va_get (D := (dC, dI)) (ci := 2) (v := .int ca) (C := RX2) (T := TX2) (N := 16) hx hb hts inlX2 hown hK hP 7 rfl rfl 6 (by decide) (hts _ km_97) (fun _ h9 => h9) rfl dX2_lower_78 ?_
          refine lv_iconst (v := 1) hx hb dX2_lower_81 (by decide) ?_
          refine lv_iadd hx hb dX2_lower_82 ?_
          refine va_put (D := (dC, dI)) (ci := 2) (v := .int (ca + 1)) (ty := .int) (C := RX2) (T := TX2) (N := 16) hx hb hts inlX2 tyX2 tyX2_ok nmX2 hown hK hP hD hS 7 rfl rfl 6 (by decide) (hts _ km_97) (fun _ h9 => h9) rfl (by decide +kernel) rfl rfl (Nat.le_of_ble_eq_true rfl) dX2_lower_83 (fun H locs hP hD hS => ?_)
          have hP : va_P (dC, dI) classes (wM c0 c1 c2 c3 c4 c5 c6 y cI cZ n ar gl lo (pg + 0) (ca + 1) ac hw (upd K j key) F T Ln Wy Fo Tk Ne ++ rest) H := hP
          have hD : va_D A (wM c0 c1 c2 c3 c4 c5 c6 y cI cZ n ar gl lo (pg + 0) (ca + 1) ac hw (upd K j key) F T Ln Wy Fo Tk Ne ++ rest) := hD
          refine lv_iconst (v := 0) hx hb dX2_lower_86 (by decide) ?_
          exact fx_iret hx hb hr hlocks hK hS dX2_lower_87 (lo, pg + 0, ca + 1, upd K j key) (by unfold mqlower; rw [fqat_some hj hn31]; dsimp only; rw [if_neg h8, if_neg c_15, if_pos c_25, if_pos c_57]) hP hD
        · refine lv_iconst (v := 1) hx hb dX2_lower_60 (by decide) ?_
          refine lv_goto (tgt := 65) hx hb dX2_lower_61 (by decide) ?_
          refine lv_iadd hx hb dX2_lower_65 ?_
          refine va_put (D := (dC, dI)) (ci := 2) (v := .int (pg + 1)) (ty := .int) (C := RX2) (T := TX2) (N := 16) hx hb hts inlX2 tyX2 tyX2_ok nmX2 hown hK hP hD hS 7 rfl rfl 5 (by decide) (hts _ km_96) (fun _ h9 => h9) rfl (by decide +kernel) rfl rfl (Nat.le_of_ble_eq_true rfl) dX2_lower_66 (fun H locs hP hD hS => ?_)
          have hP : va_P (dC, dI) classes (wM c0 c1 c2 c3 c4 c5 c6 y cI cZ n ar gl lo (pg + 1) ca ac hw K F T Ln Wy Fo Tk Ne ++ rest) H := hP
          have hD : va_D A (wM c0 c1 c2 c3 c4 c5 c6 y cI cZ n ar gl lo (pg + 1) ca ac hw K F T Ln Wy Fo Tk Ne ++ rest) := hD
          refine lv_aload_n hx hb dX2_lower_69 rfl (lv_at hl 0 rfl) ?_
          refine va_get (D := (dC, dI)) (ci := 2) (v := .ref (y 1)) (C := RX2) (T := TX2) (N := 16) hx hb hts inlX2 hown hK hP 7 rfl rfl 3 (by decide) (hts _ km_42) (fun _ h9 => h9) rfl dX2_lower_70 ?_
          refine lv_iload_n hx hb dX2_lower_73 rfl (lv_at hl 1 rfl) ?_
          refine lv_iload_n hx hb dX2_lower_74 rfl (lv_at hl 2 rfl) ?_
          refine fx_ast hx hb hK hP hD hS 8 0 rfl rfl j rfl (by omega) (by decide) dX2_lower_75 (fun H locs hP hD hS => ?_)
          have hP : va_P (dC, dI) classes (wM c0 c1 c2 c3 c4 c5 c6 y cI cZ n ar gl lo (pg + 1) ca ac hw (upd K j key) F T Ln Wy Fo Tk Ne ++ rest) H := hP
          have hD : va_D A (wM c0 c1 c2 c3 c4 c5 c6 y cI cZ n ar gl lo (pg + 1) ca ac hw (upd K j key) F T Ln Wy Fo Tk Ne ++ rest) := hD
          refine lv_aload_n hx hb dX2_lower_76 rfl (lv_at hl 0 rfl) ?_
          refine lv_dup hx hb dX2_lower_77 rfl ?_
          refine va_get (D := (dC, dI)) (ci := 2) (v := .int ca) (C := RX2) (T := TX2) (N := 16) hx hb hts inlX2 hown hK hP 7 rfl rfl 6 (by decide) (hts _ km_97) (fun _ h9 => h9) rfl dX2_lower_78 ?_
          refine lv_iconst (v := 1) hx hb dX2_lower_81 (by decide) ?_
          refine lv_iadd hx hb dX2_lower_82 ?_
          refine va_put (D := (dC, dI)) (ci := 2) (v := .int (ca + 1)) (ty := .int) (C := RX2) (T := TX2) (N := 16) hx hb hts inlX2 tyX2 tyX2_ok nmX2 hown hK hP hD hS 7 rfl rfl 6 (by decide) (hts _ km_97) (fun _ h9 => h9) rfl (by decide +kernel) rfl rfl (Nat.le_of_ble_eq_true rfl) dX2_lower_83 (fun H locs hP hD hS => ?_)
          have hP : va_P (dC, dI) classes (wM c0 c1 c2 c3 c4 c5 c6 y cI cZ n ar gl lo (pg + 1) (ca + 1) ac hw (upd K j key) F T Ln Wy Fo Tk Ne ++ rest) H := hP
          have hD : va_D A (wM c0 c1 c2 c3 c4 c5 c6 y cI cZ n ar gl lo (pg + 1) (ca + 1) ac hw (upd K j key) F T Ln Wy Fo Tk Ne ++ rest) := hD
          refine lv_iconst (v := 0) hx hb dX2_lower_86 (by decide) ?_
          exact fx_iret hx hb hr hlocks hK hS dX2_lower_87 (lo, pg + 1, ca + 1, upd K j key) (by unfold mqlower; rw [fqat_some hj hn31]; dsimp only; rw [if_neg h8, if_neg c_15, if_pos c_25, if_neg c_57]) hP hD
      · refine lv_bipush (v := (-2)) hx hb dX2_lower_28 (by decide) ?_
        exact fx_iret hx hb hr hlocks hK hS dX2_lower_30 (lo, pg, ca, K) (by unfold mqlower; rw [fqat_some hj hn31]; dsimp only; rw [if_neg h8, if_neg c_15, if_neg c_25]) hP hD
  · refine lv_if_ne (tgt := 10) hx hb dX2_lower_5 (by decide) (fun h9 => absurd h9 (by decide)) (fun _ => ?_)
    refine lv_iconst (v := (-1)) hx hb dX2_lower_8 (by decide) ?_
    exact fx_iret hx hb hr hlocks hK hS dX2_lower_9 (lo, pg, ca, K) (by unfold mqlower; cases e : fqat n x with | none => rfl | some j => exact (if_pos (h j (fqat_lt e).1 (fqat_lt e).2)).symm) hP hD
set_option maxHeartbeats 4000000 in
set_option maxRecDepth 100000 in
theorem sq_floor (l : Launch) (dC : Nat → ClassId) (dI : Nat → Nat → Nat) (A : Nat → Prop) (cI cA cZ : ClassId) (rest : va_W) (c0 c1 c2 c3 c4 c5 c6 : Nat × va_E) (y : Nat → Nat) (n : Nat) (hn : n ≤ 40) (ar : Nat) (gl : Int32) (lo pg ca : Int32) (ac : Nat) (hw : Int32) (K F T Ln Wy Fo Tk Ne : Nat → Int32)  : Met l yX2_floor (Cond.code yX2_floor cX2_floor 1 (some .int) :: wsL_law) ({ frames := 0, cells := 0, slots := 0, locals := 0 } : Room) (va_Pc [.ref (y 0)] (fx_Pre (dC, dI) classes (fq_ty cI cA cZ) A (wM c0 c1 c2 c3 c4 c5 c6 y cI cZ n ar gl lo pg ca ac hw K F T Ln Wy Fo Tk Ne ++ rest))) (vp_Si (fun r => r = lo)) 0 0 (fun _ => False) := by
  refine Met.ofW (cc := cX2_floor) (maxL := 1) (ret := (some .int)) (by decide) rfl ?_
  intro p e s m args below meth c s₁ B0 hml hv
  obtain ⟨rfl, hA, hP, hK, hD, hN⟩ := hv
  have hx := B0.exec
  have hb := B0.bytes
  have hr := B0.returns
  have hts0 := atoms_spec (ws := (Cond.code yX2_floor cX2_floor 1 (some .int) :: wsL_law)) B0.pre
  have hts := fun w (h : w ∈ wsL_law) => hts0 w (List.mem_cons_of_mem _ h)
  have hown : s.vm.findClass RX2 = some m.cls := findClass_of_methodNamed B0.named
  have hlocks := B0.notSynchronized
  have hF : CallFix p m c cX2_floor 1 s ([.ref (y 0)] : List Value).toArray wsL_law RX2 := ⟨hx, hb, hml, hown, hts⟩
  have hS : va_S A s.heap s.heap [] := va_S.rf
  have hl := lv_entry ([.ref (y 0)]) (n := 1) (Nat.le_of_ble_eq_true rfl)
  rw [lg_entry_eq]
  generalize (lg_sl ([.ref (y 0)]) ++ List.replicate (1 - (lg_sl ([.ref (y 0)])).length) Slot.unset).toArray = ls at hl ⊢
  have hl : lv_has ls 1 [(0, .ref (y 0))] := hl
  have hn31 : n < 2 ^ 31 := by omega
  refine lv_aload_n hx hb dX2_floor_0 rfl (lv_at hl 0 rfl) ?_
  refine va_get (D := (dC, dI)) (ci := 2) (v := .int lo) (C := RX2) (T := TX2) (N := 16) hx hb hts inlX2 hown hK hP 7 rfl rfl 4 (by decide) (hts _ km_58) (fun _ h9 => h9) rfl dX2_floor_1 ?_
  exact fx_sret hx hb hr hlocks dX2_floor_4 (rfl)
set_option maxHeartbeats 4000000 in
set_option maxRecDepth 100000 in
theorem sq_placed (l : Launch) (dC : Nat → ClassId) (dI : Nat → Nat → Nat) (A : Nat → Prop) (cI cA cZ : ClassId) (rest : va_W) (c0 c1 c2 c3 c4 c5 c6 : Nat × va_E) (y : Nat → Nat) (n : Nat) (hn : n ≤ 40) (ar : Nat) (gl : Int32) (lo pg ca : Int32) (ac : Nat) (hw : Int32) (K F T Ln Wy Fo Tk Ne : Nat → Int32)  : Met l yX2_placed (Cond.code yX2_placed cX2_placed 1 (some .int) :: wsL_law) ({ frames := 0, cells := 0, slots := 0, locals := 0 } : Room) (va_Pc [.ref (y 0)] (fx_Pre (dC, dI) classes (fq_ty cI cA cZ) A (wM c0 c1 c2 c3 c4 c5 c6 y cI cZ n ar gl lo pg ca ac hw K F T Ln Wy Fo Tk Ne ++ rest))) (vp_Si (fun r => r = pg)) 0 0 (fun _ => False) := by
  refine Met.ofW (cc := cX2_placed) (maxL := 1) (ret := (some .int)) (by decide) rfl ?_
  intro p e s m args below meth c s₁ B0 hml hv
  obtain ⟨rfl, hA, hP, hK, hD, hN⟩ := hv
  have hx := B0.exec
  have hb := B0.bytes
  have hr := B0.returns
  have hts0 := atoms_spec (ws := (Cond.code yX2_placed cX2_placed 1 (some .int) :: wsL_law)) B0.pre
  have hts := fun w (h : w ∈ wsL_law) => hts0 w (List.mem_cons_of_mem _ h)
  have hown : s.vm.findClass RX2 = some m.cls := findClass_of_methodNamed B0.named
  have hlocks := B0.notSynchronized
  have hF : CallFix p m c cX2_placed 1 s ([.ref (y 0)] : List Value).toArray wsL_law RX2 := ⟨hx, hb, hml, hown, hts⟩
  have hS : va_S A s.heap s.heap [] := va_S.rf
  have hl := lv_entry ([.ref (y 0)]) (n := 1) (Nat.le_of_ble_eq_true rfl)
  rw [lg_entry_eq]
  generalize (lg_sl ([.ref (y 0)]) ++ List.replicate (1 - (lg_sl ([.ref (y 0)])).length) Slot.unset).toArray = ls at hl ⊢
  have hl : lv_has ls 1 [(0, .ref (y 0))] := hl
  have hn31 : n < 2 ^ 31 := by omega
  refine lv_aload_n hx hb dX2_placed_0 rfl (lv_at hl 0 rfl) ?_
  refine va_get (D := (dC, dI)) (ci := 2) (v := .int pg) (C := RX2) (T := TX2) (N := 16) hx hb hts inlX2 hown hK hP 7 rfl rfl 5 (by decide) (hts _ km_96) (fun _ h9 => h9) rfl dX2_placed_1 ?_
  exact fx_sret hx hb hr hlocks dX2_placed_4 (rfl)
set_option maxHeartbeats 4000000 in
set_option maxRecDepth 100000 in
theorem sq_key (l : Launch) (dC : Nat → ClassId) (dI : Nat → Nat → Nat) (A : Nat → Prop) (cI cA cZ : ClassId) (rest : va_W) (c0 c1 c2 c3 c4 c5 c6 : Nat × va_E) (y : Nat → Nat) (n : Nat) (hn : n ≤ 40) (ar : Nat) (gl : Int32) (lo pg ca : Int32) (ac : Nat) (hw : Int32) (K F T Ln Wy Fo Tk Ne : Nat → Int32) (x : Int32) (hs : mqS n (lo, pg, ca, K)) : Met l yX2_key (Cond.code yX2_key cX2_key 2 (some .int) :: wsL_law) ({ frames := 2, cells := 0, slots := 0, locals := 42 } : Room) (va_Pc [.ref (y 0), .int x] (fx_Pre (dC, dI) classes (fq_ty cI cA cZ) A (wM c0 c1 c2 c3 c4 c5 c6 y cI cZ n ar gl lo pg ca ac hw K F T Ln Wy Fo Tk Ne ++ rest))) (vp_Si (fun r => r = fqget n (K) (mqhas K) x)) 0 0 (fun _ => False) := by
  refine Met.ofW (cc := cX2_key) (maxL := 2) (ret := (some .int)) (by decide) rfl ?_
  intro p e s m args below meth c s₁ B0 hml hv
  obtain ⟨rfl, hA, hP, hK, hD, hN⟩ := hv
  have hx := B0.exec
  have hb := B0.bytes
  have hr := B0.returns
  have hts0 := atoms_spec (ws := (Cond.code yX2_key cX2_key 2 (some .int) :: wsL_law)) B0.pre
  have hts := fun w (h : w ∈ wsL_law) => hts0 w (List.mem_cons_of_mem _ h)
  have hown : s.vm.findClass RX2 = some m.cls := findClass_of_methodNamed B0.named
  have hlocks := B0.notSynchronized
  have hF : CallFix p m c cX2_key 2 s ([.ref (y 0), .int x] : List Value).toArray wsL_law RX2 := ⟨hx, hb, hml, hown, hts⟩
  have hS : va_S A s.heap s.heap [] := va_S.rf
  have hl := lv_entry ([.ref (y 0), .int x]) (n := 2) (Nat.le_of_ble_eq_true rfl)
  rw [lg_entry_eq]
  generalize (lg_sl ([.ref (y 0), .int x]) ++ List.replicate (2 - (lg_sl ([.ref (y 0), .int x])).length) Slot.unset).toArray = ls at hl ⊢
  have hl : lv_has ls 2 [(0, .ref (y 0)), (1, .int x)] := hl
  have hn31 : n < 2 ^ 31 := by omega
  refine lv_aload_n hx hb dX2_key_0 rfl (lv_at hl 0 rfl) ?_
  refine lv_iload_n hx hb dX2_key_1 rfl (lv_at hl 1 rfl) ?_
  refine fx_Vs (rest := []) (sq_isThere l dC dI A cI cA cZ rest c0 c1 c2 c3 c4 c5 c6 y n hn ar gl lo pg ca ac hw K F T Ln Wy Fo Tk Ne x) hF (cw_RX2_61 hts ⟨Nat.le_of_ble_eq_true rfl, Nat.le_of_ble_eq_true rfl⟩) hA hS hP hK hD hN 7 2 rfl rfl rfl hl.1 rfl (Nat.le_of_ble_eq_true rfl) dX2_key_2 ⟨Nat.le_of_ble_eq_true rfl, Nat.le_of_ble_eq_true rfl⟩ (fun r h => ?_)
  rcases h with ⟨rfl, ⟨j, hj, rfl, h8⟩⟩ | ⟨rfl, h⟩
  · refine lv_if_eq (tgt := 17) hx hb dX2_key_5 (by decide) (fun h9 => absurd h9 (by decide)) (fun _ => ?_)
    refine lv_aload_n hx hb dX2_key_8 rfl (lv_at hl 0 rfl) ?_
    refine va_get (D := (dC, dI)) (ci := 2) (v := .ref (y 1)) (C := RX2) (T := TX2) (N := 16) hx hb hts inlX2 hown hK hP 7 rfl rfl 3 (by decide) (hts _ km_42) (fun _ h9 => h9) rfl dX2_key_9 ?_
    refine lv_iload_n hx hb dX2_key_12 rfl (lv_at hl 1 rfl) ?_
    refine fx_ald hx hb hK hP 8 0 rfl rfl j rfl (by omega) (by decide) dX2_key_13 ?_
    refine lv_goto (tgt := 18) hx hb dX2_key_14 (by decide) ?_
    exact fx_sret hx hb hr hlocks dX2_key_18 (by unfold fqget; rw [fqat_some hj hn31]; dsimp only; rw [if_pos (by simp [mqhas, h8])])
  · refine lv_if_eq (tgt := 17) hx hb dX2_key_5 (by decide) (fun _ => ?_) (fun h9 => absurd h9 (by decide))
    refine lv_iconst (v := (-1)) hx hb dX2_key_17 (by decide) ?_
    exact fx_sret hx hb hr hlocks dX2_key_18 (by unfold fqget; cases e : fqat n x with | none => rfl | some j => exact (if_neg (by simp [mqhas, h j (fqat_lt e).1 (fqat_lt e).2])).symm)
set_option maxHeartbeats 4000000 in
set_option maxRecDepth 100000 in
theorem sq_bucket (l : Launch) (dC : Nat → ClassId) (dI : Nat → Nat → Nat) (A : Nat → Prop) (cI cA cZ : ClassId) (rest : va_W) (c0 c1 c2 c3 c4 c5 c6 : Nat × va_E) (y : Nat → Nat) (n : Nat) (hn : n ≤ 40) (ar : Nat) (gl : Int32) (lo pg ca : Int32) (ac : Nat) (hw : Int32) (K F T Ln Wy Fo Tk Ne : Nat → Int32) (x : Int32) (hs : mqS n (lo, pg, ca, K)) : Met l yX2_bucket (Cond.code yX2_bucket cX2_bucket 2 (some .int) :: wsL_law) ({ frames := 2, cells := 0, slots := 0, locals := 42 } : Room) (va_Pc [.ref (y 0), .int x] (fx_Pre (dC, dI) classes (fq_ty cI cA cZ) A (wM c0 c1 c2 c3 c4 c5 c6 y cI cZ n ar gl lo pg ca ac hw K F T Ln Wy Fo Tk Ne ++ rest))) (vp_Si (fun r => r = fqget n (fun j => nI (fqk (K j) lo)) (mqhas K) x)) 0 0 (fun _ => False) := by
  refine Met.ofW (cc := cX2_bucket) (maxL := 2) (ret := (some .int)) (by decide) rfl ?_
  intro p e s m args below meth c s₁ B0 hml hv
  obtain ⟨rfl, hA, hP, hK, hD, hN⟩ := hv
  have hx := B0.exec
  have hb := B0.bytes
  have hr := B0.returns
  have hts0 := atoms_spec (ws := (Cond.code yX2_bucket cX2_bucket 2 (some .int) :: wsL_law)) B0.pre
  have hts := fun w (h : w ∈ wsL_law) => hts0 w (List.mem_cons_of_mem _ h)
  have hown : s.vm.findClass RX2 = some m.cls := findClass_of_methodNamed B0.named
  have hlocks := B0.notSynchronized
  have hF : CallFix p m c cX2_bucket 2 s ([.ref (y 0), .int x] : List Value).toArray wsL_law RX2 := ⟨hx, hb, hml, hown, hts⟩
  have hS : va_S A s.heap s.heap [] := va_S.rf
  have hl := lv_entry ([.ref (y 0), .int x]) (n := 2) (Nat.le_of_ble_eq_true rfl)
  rw [lg_entry_eq]
  generalize (lg_sl ([.ref (y 0), .int x]) ++ List.replicate (2 - (lg_sl ([.ref (y 0), .int x])).length) Slot.unset).toArray = ls at hl ⊢
  have hl : lv_has ls 2 [(0, .ref (y 0)), (1, .int x)] := hl
  have hn31 : n < 2 ^ 31 := by omega
  refine lv_aload_n hx hb dX2_bucket_0 rfl (lv_at hl 0 rfl) ?_
  refine lv_iload_n hx hb dX2_bucket_1 rfl (lv_at hl 1 rfl) ?_
  refine fx_Vs (rest := []) (sq_isThere l dC dI A cI cA cZ rest c0 c1 c2 c3 c4 c5 c6 y n hn ar gl lo pg ca ac hw K F T Ln Wy Fo Tk Ne x) hF (cw_RX2_61 hts ⟨Nat.le_of_ble_eq_true rfl, Nat.le_of_ble_eq_true rfl⟩) hA hS hP hK hD hN 7 2 rfl rfl rfl hl.1 rfl (Nat.le_of_ble_eq_true rfl) dX2_bucket_2 ⟨Nat.le_of_ble_eq_true rfl, Nat.le_of_ble_eq_true rfl⟩ (fun r h => ?_)
  rcases h with ⟨rfl, ⟨j, hj, rfl, h8⟩⟩ | ⟨rfl, h⟩
  · refine lv_if_eq (tgt := 24) hx hb dX2_bucket_5 (by decide) (fun h9 => absurd h9 (by decide)) (fun _ => ?_)
    refine lv_aload_n hx hb dX2_bucket_8 rfl (lv_at hl 0 rfl) ?_
    refine va_get (D := (dC, dI)) (ci := 2) (v := .ref (y 1)) (C := RX2) (T := TX2) (N := 16) hx hb hts inlX2 hown hK hP 7 rfl rfl 3 (by decide) (hts _ km_42) (fun _ h9 => h9) rfl dX2_bucket_9 ?_
    refine lv_iload_n hx hb dX2_bucket_12 rfl (lv_at hl 1 rfl) ?_
    refine fx_ald hx hb hK hP 8 0 rfl rfl j rfl (by omega) (by decide) dX2_bucket_13 ?_
    refine lv_aload_n hx hb dX2_bucket_14 rfl (lv_at hl 0 rfl) ?_
    refine va_get (D := (dC, dI)) (ci := 2) (v := .int lo) (C := RX2) (T := TX2) (N := 16) hx hb hts inlX2 hown hK hP 7 rfl rfl 4 (by decide) (hts _ km_58) (fun _ h9 => h9) rfl dX2_bucket_15 ?_
    refine fx_Ss (rest := []) (sq_unlike l (K j) lo (hs.2 j hj h8) hs.1) hF (cw_RX2_64 hts ⟨Nat.le_of_ble_eq_true rfl, Nat.le_of_ble_eq_true rfl⟩) rfl hl.1 rfl (Nat.le_of_ble_eq_true rfl) dX2_bucket_18 ⟨Nat.le_of_ble_eq_true rfl, Nat.le_of_ble_eq_true rfl⟩ (fun r9 h9 => ?_)
    subst h9
    refine lv_goto (tgt := 25) hx hb dX2_bucket_21 (by decide) ?_
    exact fx_sret hx hb hr hlocks dX2_bucket_25 (by unfold fqget; rw [fqat_some hj hn31]; dsimp only; rw [if_pos (by simp [mqhas, h8])])
  · refine lv_if_eq (tgt := 24) hx hb dX2_bucket_5 (by decide) (fun _ => ?_) (fun h9 => absurd h9 (by decide))
    refine lv_iconst (v := (-1)) hx hb dX2_bucket_24 (by decide) ?_
    exact fx_sret hx hb hr hlocks dX2_bucket_25 (by unfold fqget; cases e : fqat n x with | none => rfl | some j => exact (if_neg (by simp [mqhas, h j (fqat_lt e).1 (fqat_lt e).2])).symm)
set_option maxHeartbeats 4000000 in
set_option maxRecDepth 100000 in
theorem sq_size (l : Launch) (dC : Nat → ClassId) (dI : Nat → Nat → Nat) (A : Nat → Prop) (cI cA cZ : ClassId) (rest : va_W) (c0 c1 c2 c3 c4 c5 c6 : Nat × va_E) (y : Nat → Nat) (n : Nat) (hn : n ≤ 40) (ar : Nat) (gl : Int32) (lo pg ca : Int32) (ac : Nat) (hw : Int32) (K F T Ln Wy Fo Tk Ne : Nat → Int32)  : Met l yX2_size (Cond.code yX2_size cX2_size 3 (some .int) :: wsL_law) ({ frames := 0, cells := 0, slots := 0, locals := 0 } : Room) (va_Pc [.ref (y 0)] (fx_Pre (dC, dI) classes (fq_ty cI cA cZ) A (wM c0 c1 c2 c3 c4 c5 c6 y cI cZ n ar gl lo pg ca ac hw K F T Ln Wy Fo Tk Ne ++ rest))) (vp_Si (fun r => r = mqcnt (mqhas K) n 0 0)) 0 0 (fun _ => False) := by
  refine Met.ofW (cc := cX2_size) (maxL := 3) (ret := (some .int)) (by decide) rfl ?_
  intro p e s m args below meth c s₁ B0 hml hv
  obtain ⟨rfl, hA, hP, hK, hD, hN⟩ := hv
  have hx := B0.exec
  have hb := B0.bytes
  have hr := B0.returns
  have hts0 := atoms_spec (ws := (Cond.code yX2_size cX2_size 3 (some .int) :: wsL_law)) B0.pre
  have hts := fun w (h : w ∈ wsL_law) => hts0 w (List.mem_cons_of_mem _ h)
  have hown : s.vm.findClass RX2 = some m.cls := findClass_of_methodNamed B0.named
  have hlocks := B0.notSynchronized
  have hF : CallFix p m c cX2_size 3 s ([.ref (y 0)] : List Value).toArray wsL_law RX2 := ⟨hx, hb, hml, hown, hts⟩
  have hS : va_S A s.heap s.heap [] := va_S.rf
  have hl := lv_entry ([.ref (y 0)]) (n := 3) (Nat.le_of_ble_eq_true rfl)
  rw [lg_entry_eq]
  generalize (lg_sl ([.ref (y 0)]) ++ List.replicate (3 - (lg_sl ([.ref (y 0)])).length) Slot.unset).toArray = ls at hl ⊢
  have hl : lv_has ls 3 [(0, .ref (y 0))] := hl
  have hn31 : n < 2 ^ 31 := by omega
  have K0 : ∀ (d i : Nat) (cc0 : Int32) (ls : Array Slot), d + i = n → (mqcnt (mqhas K) d i cc0 = mqcnt (mqhas K) n 0 0) → lv_has ls 3 [(0, .ref (y 0)), (1, .int cc0), (2, .int (nI i))] → W p l e (headSpec (Cond.code yX2_size cX2_size 3 (some .int) :: wsL_law) ({ frames := 0, cells := 0, slots := 0, locals := 0 } : Room)).room s m ([.ref (y 0)] : List Value).toArray below meth c s.heap [] 0 0 (MQ below (vp_Si (fun r => r = mqcnt (mqhas K) n 0 0)) ([.ref (y 0)] : List Value).toArray s 0 0 (fun _ => False)) (F0 m 4 ls []) := by
    intro d
    induction d with
    | zero =>
      intro i cc0 ls hdi hq hl
      have e0 : i = n := by omega
      refine lv_iload_n hx hb dX2_size_4 rfl (lv_at hl 2 rfl) ?_
      refine lv_aload_n hx hb dX2_size_5 rfl (lv_at hl 0 rfl) ?_
      refine va_get (D := (dC, dI)) (ci := 2) (v := .int (nI n)) (C := RX2) (T := TX2) (N := 16) hx hb hts inlX2 hown hK hP 7 rfl rfl 0 (by decide) (hts _ km_51) (fun _ h9 => h9) rfl dX2_size_6 ?_
      refine lv_icmp_ge (tgt := 36) hx hb dX2_size_9 (by decide) (fun c_9 => ?_) (fun c_9 => ?_)
      · refine lv_iload_n hx hb dX2_size_36 rfl (lv_at hl 1 rfl) ?_
        exact fx_sret hx hb hr hlocks dX2_size_37 (hq)
      · exact absurd (nI_le (by omega) (by omega)) c_9
    | succ d ih =>
      intro i cc0 ls hdi hq hl
      have hi : i < n := by omega
      refine lv_iload_n hx hb dX2_size_4 rfl (lv_at hl 2 rfl) ?_
      refine lv_aload_n hx hb dX2_size_5 rfl (lv_at hl 0 rfl) ?_
      refine va_get (D := (dC, dI)) (ci := 2) (v := .int (nI n)) (C := RX2) (T := TX2) (N := 16) hx hb hts inlX2 hown hK hP 7 rfl rfl 0 (by decide) (hts _ km_51) (fun _ h9 => h9) rfl dX2_size_6 ?_
      refine lv_icmp_ge (tgt := 36) hx hb dX2_size_9 (by decide) (fun c_9 => ?_) (fun c_9 => ?_)
      · exact absurd c_9 (nI_ge hi hn31)
      · refine lv_iload_n hx hb dX2_size_12 rfl (lv_at hl 1 rfl) ?_
        refine lv_aload_n hx hb dX2_size_13 rfl (lv_at hl 0 rfl) ?_
        refine va_get (D := (dC, dI)) (ci := 2) (v := .ref (y 1)) (C := RX2) (T := TX2) (N := 16) hx hb hts inlX2 hown hK hP 7 rfl rfl 3 (by decide) (hts _ km_42) (fun _ h9 => h9) rfl dX2_size_14 ?_
        refine lv_iload_n hx hb dX2_size_17 rfl (lv_at hl 2 rfl) ?_
        refine fx_ald hx hb hK hP 8 0 rfl rfl i rfl (by omega) (by decide) dX2_size_18 ?_
        refine lv_iconst (v := (-1)) hx hb dX2_size_19 (by decide) ?_
        refine lv_icmp_eq (tgt := 27) hx hb dX2_size_20 (by decide) (fun c_20 => ?_) (fun c_20 => ?_)
        · refine lv_iconst (v := 0) hx hb dX2_size_27 (by decide) ?_
          refine lv_iadd hx hb dX2_size_28 ?_
          refine lv_istore_n (lv' := [(1, .int (cc0 + 0)), (0, .ref (y 0)), (2, .int (nI i))]) hx hb dX2_size_29 rfl hl (by decide) rfl (fun ls hl => ?_)
          refine lv_iinc (v := nI (i + 1)) (lv' := [(2, .int (nI (i + 1))), (1, .int (cc0 + 0)), (0, .ref (y 0))]) hx hb dX2_size_30 hl (k := 2) rfl (nI_1 i) (by decide) rfl (fun ls hl => ?_)
          refine lv_goto (tgt := 4) hx hb dX2_size_33 (by decide) ?_
          exact ih (i + 1) (cc0 + 0) ls (by omega) (by rw [← hq, mqcnt_s, if_neg (by simp [mqhas, c_20])]) (lv_sub hl [2, 1, 0] rfl)
        · refine lv_iconst (v := 1) hx hb dX2_size_23 (by decide) ?_
          refine lv_goto (tgt := 28) hx hb dX2_size_24 (by decide) ?_
          refine lv_iadd hx hb dX2_size_28 ?_
          refine lv_istore_n (lv' := [(1, .int (cc0 + 1)), (0, .ref (y 0)), (2, .int (nI i))]) hx hb dX2_size_29 rfl hl (by decide) rfl (fun ls hl => ?_)
          refine lv_iinc (v := nI (i + 1)) (lv' := [(2, .int (nI (i + 1))), (1, .int (cc0 + 1)), (0, .ref (y 0))]) hx hb dX2_size_30 hl (k := 2) rfl (nI_1 i) (by decide) rfl (fun ls hl => ?_)
          refine lv_goto (tgt := 4) hx hb dX2_size_33 (by decide) ?_
          exact ih (i + 1) (cc0 + 1) ls (by omega) (by rw [← hq, mqcnt_s, if_pos (by simp [mqhas, c_20])]) (lv_sub hl [2, 1, 0] rfl)
  refine lv_iconst (v := 0) hx hb dX2_size_0 (by decide) ?_
  refine lv_istore_n (lv' := [(1, .int 0), (0, .ref (y 0))]) hx hb dX2_size_1 rfl hl (by decide) rfl (fun ls hl => ?_)
  refine lv_iconst (v := 0) hx hb dX2_size_2 (by decide) ?_
  refine lv_istore_n (lv' := [(2, .int 0), (1, .int 0), (0, .ref (y 0))]) hx hb dX2_size_3 rfl hl (by decide) rfl (fun ls hl => ?_)
  exact K0 n 0 0 ls rfl rfl (lv_sub hl [2, 1, 0] rfl)
set_option maxHeartbeats 4000000 in
set_option maxRecDepth 100000 in
theorem sq_many (l : Launch) (dC : Nat → ClassId) (dI : Nat → Nat → Nat) (A : Nat → Prop) (cI cA cZ : ClassId) (rest : va_W) (c0 c1 c2 c3 c4 c5 c6 : Nat × va_E) (y : Nat → Nat) (n : Nat) (hn : n ≤ 40) (ar : Nat) (gl : Int32) (lo pg ca : Int32) (ac : Nat) (hw : Int32) (K F T Ln Wy Fo Tk Ne : Nat → Int32) (x : Int32) (hs : mqS n (lo, pg, ca, K)) : Met l yX2_many (Cond.code yX2_many cX2_many 4 (some .int) :: wsL_law) ({ frames := 1, cells := 0, slots := 0, locals := 23 } : Room) (va_Pc [.ref (y 0), .int x] (fx_Pre (dC, dI) classes (fq_ty cI cA cZ) A (wM c0 c1 c2 c3 c4 c5 c6 y cI cZ n ar gl lo pg ca ac hw K F T Ln Wy Fo Tk Ne ++ rest))) (vp_Si (fun r => r = mqmany n (lo, pg, ca, K) x)) 0 0 (fun _ => False) := by
  refine Met.ofW (cc := cX2_many) (maxL := 4) (ret := (some .int)) (by decide) rfl ?_
  intro p e s m args below meth c s₁ B0 hml hv
  obtain ⟨rfl, hA, hP, hK, hD, hN⟩ := hv
  have hx := B0.exec
  have hb := B0.bytes
  have hr := B0.returns
  have hts0 := atoms_spec (ws := (Cond.code yX2_many cX2_many 4 (some .int) :: wsL_law)) B0.pre
  have hts := fun w (h : w ∈ wsL_law) => hts0 w (List.mem_cons_of_mem _ h)
  have hown : s.vm.findClass RX2 = some m.cls := findClass_of_methodNamed B0.named
  have hlocks := B0.notSynchronized
  have hF : CallFix p m c cX2_many 4 s ([.ref (y 0), .int x] : List Value).toArray wsL_law RX2 := ⟨hx, hb, hml, hown, hts⟩
  have hS : va_S A s.heap s.heap [] := va_S.rf
  have hl := lv_entry ([.ref (y 0), .int x]) (n := 4) (Nat.le_of_ble_eq_true rfl)
  rw [lg_entry_eq]
  generalize (lg_sl ([.ref (y 0), .int x]) ++ List.replicate (4 - (lg_sl ([.ref (y 0), .int x])).length) Slot.unset).toArray = ls at hl ⊢
  have hl : lv_has ls 4 [(0, .ref (y 0)), (1, .int x)] := hl
  have hn31 : n < 2 ^ 31 := by omega
  have K0 : ∀ (d i : Nat) (cc0 : Int32) (ls : Array Slot), d + i = n → (mqcnt (mqat K lo x) d i cc0 = mqmany n (lo, pg, ca, K) x) → lv_has ls 4 [(0, .ref (y 0)), (1, .int x), (2, .int cc0), (3, .int (nI i))] → W p l e (headSpec (Cond.code yX2_many cX2_many 4 (some .int) :: wsL_law) ({ frames := 1, cells := 0, slots := 0, locals := 23 } : Room)).room s m ([.ref (y 0), .int x] : List Value).toArray below meth c s.heap [] 0 0 (MQ below (vp_Si (fun r => r = mqmany n (lo, pg, ca, K) x)) ([.ref (y 0), .int x] : List Value).toArray s 0 0 (fun _ => False)) (F0 m 16 ls []) := by
    intro d
    induction d with
    | zero =>
      intro i cc0 ls hdi hq hl
      have e0 : i = n := by omega
      refine lv_iload_n hx hb dX2_many_16 rfl (lv_at hl 3 rfl) ?_
      refine lv_aload_n hx hb dX2_many_17 rfl (lv_at hl 0 rfl) ?_
      refine va_get (D := (dC, dI)) (ci := 2) (v := .int (nI n)) (C := RX2) (T := TX2) (N := 16) hx hb hts inlX2 hown hK hP 7 rfl rfl 0 (by decide) (hts _ km_51) (fun _ h9 => h9) rfl dX2_many_18 ?_
      refine lv_icmp_ge (tgt := 65) hx hb dX2_many_21 (by decide) (fun c_21 => ?_) (fun c_21 => ?_)
      · refine lv_iload_n hx hb dX2_many_65 rfl (lv_at hl 2 rfl) ?_
        exact fx_sret hx hb hr hlocks dX2_many_66 (hq)
      · exact absurd (nI_le (by omega) (by omega)) c_21
    | succ d ih =>
      intro i cc0 ls hdi hq hl
      have hi : i < n := by omega
      refine lv_iload_n hx hb dX2_many_16 rfl (lv_at hl 3 rfl) ?_
      refine lv_aload_n hx hb dX2_many_17 rfl (lv_at hl 0 rfl) ?_
      refine va_get (D := (dC, dI)) (ci := 2) (v := .int (nI n)) (C := RX2) (T := TX2) (N := 16) hx hb hts inlX2 hown hK hP 7 rfl rfl 0 (by decide) (hts _ km_51) (fun _ h9 => h9) rfl dX2_many_18 ?_
      refine lv_icmp_ge (tgt := 65) hx hb dX2_many_21 (by decide) (fun c_21 => ?_) (fun c_21 => ?_)
      · exact absurd c_21 (nI_ge hi hn31)
      · refine lv_iload_n hx hb dX2_many_24 rfl (lv_at hl 2 rfl) ?_
        refine lv_aload_n hx hb dX2_many_25 rfl (lv_at hl 0 rfl) ?_
        refine va_get (D := (dC, dI)) (ci := 2) (v := .ref (y 1)) (C := RX2) (T := TX2) (N := 16) hx hb hts inlX2 hown hK hP 7 rfl rfl 3 (by decide) (hts _ km_42) (fun _ h9 => h9) rfl dX2_many_26 ?_
        refine lv_iload_n hx hb dX2_many_29 rfl (lv_at hl 3 rfl) ?_
        refine fx_ald hx hb hK hP 8 0 rfl rfl i rfl (by omega) (by decide) dX2_many_30 ?_
        refine lv_iconst (v := (-1)) hx hb dX2_many_31 (by decide) ?_
        refine lv_icmp_eq (tgt := 56) hx hb dX2_many_32 (by decide) (fun c_32 => ?_) (fun c_32 => ?_)
        · refine lv_iconst (v := 0) hx hb dX2_many_56 (by decide) ?_
          refine lv_iadd hx hb dX2_many_57 ?_
          refine lv_istore_n (lv' := [(2, .int (cc0 + 0)), (0, .ref (y 0)), (1, .int x), (3, .int (nI i))]) hx hb dX2_many_58 rfl hl (by decide) rfl (fun ls hl => ?_)
          refine lv_iinc (v := nI (i + 1)) (lv' := [(3, .int (nI (i + 1))), (2, .int (cc0 + 0)), (0, .ref (y 0)), (1, .int x)]) hx hb dX2_many_59 hl (k := 3) rfl (nI_1 i) (by decide) rfl (fun ls hl => ?_)
          refine lv_goto (tgt := 16) hx hb dX2_many_62 (by decide) ?_
          exact ih (i + 1) (cc0 + 0) ls (by omega) (by rw [← hq, mqcnt_s, if_neg (by simp [mqat, c_32])]) (lv_sub hl [2, 3, 1, 0] rfl)
        · refine lv_aload_n hx hb dX2_many_35 rfl (lv_at hl 0 rfl) ?_
          refine va_get (D := (dC, dI)) (ci := 2) (v := .ref (y 1)) (C := RX2) (T := TX2) (N := 16) hx hb hts inlX2 hown hK hP 7 rfl rfl 3 (by decide) (hts _ km_42) (fun _ h9 => h9) rfl dX2_many_36 ?_
          refine lv_iload_n hx hb dX2_many_39 rfl (lv_at hl 3 rfl) ?_
          refine fx_ald hx hb hK hP 8 0 rfl rfl i rfl (by omega) (by decide) dX2_many_40 ?_
          refine lv_aload_n hx hb dX2_many_41 rfl (lv_at hl 0 rfl) ?_
          refine va_get (D := (dC, dI)) (ci := 2) (v := .int lo) (C := RX2) (T := TX2) (N := 16) hx hb hts inlX2 hown hK hP 7 rfl rfl 4 (by decide) (hts _ km_58) (fun _ h9 => h9) rfl dX2_many_42 ?_
          refine fx_Ss (rest := [.int cc0]) (sq_unlike l (K i) lo (hs.2 i hi c_32) hs.1) hF (cw_RX2_64 hts ⟨Nat.le_of_ble_eq_true rfl, Nat.le_of_ble_eq_true rfl⟩) rfl hl.1 rfl (Nat.le_of_ble_eq_true rfl) dX2_many_45 ⟨Nat.le_of_ble_eq_true rfl, Nat.le_of_ble_eq_true rfl⟩ (fun r9 h9 => ?_)
          subst h9
          refine lv_iload_n hx hb dX2_many_48 rfl (lv_at hl 1 rfl) ?_
          refine lv_icmp_ne (tgt := 56) hx hb dX2_many_49 (by decide) (fun c_49 => ?_) (fun c_49 => ?_)
          · refine lv_iconst (v := 0) hx hb dX2_many_56 (by decide) ?_
            refine lv_iadd hx hb dX2_many_57 ?_
            refine lv_istore_n (lv' := [(2, .int (cc0 + 0)), (0, .ref (y 0)), (1, .int x), (3, .int (nI i))]) hx hb dX2_many_58 rfl hl (by decide) rfl (fun ls hl => ?_)
            refine lv_iinc (v := nI (i + 1)) (lv' := [(3, .int (nI (i + 1))), (2, .int (cc0 + 0)), (0, .ref (y 0)), (1, .int x)]) hx hb dX2_many_59 hl (k := 3) rfl (nI_1 i) (by decide) rfl (fun ls hl => ?_)
            refine lv_goto (tgt := 16) hx hb dX2_many_62 (by decide) ?_
            exact ih (i + 1) (cc0 + 0) ls (by omega) (by rw [← hq, mqcnt_s, if_neg (by simp [mqat, c_49])]) (lv_sub hl [2, 3, 1, 0] rfl)
          · refine lv_iconst (v := 1) hx hb dX2_many_52 (by decide) ?_
            refine lv_goto (tgt := 57) hx hb dX2_many_53 (by decide) ?_
            refine lv_iadd hx hb dX2_many_57 ?_
            refine lv_istore_n (lv' := [(2, .int (cc0 + 1)), (0, .ref (y 0)), (1, .int x), (3, .int (nI i))]) hx hb dX2_many_58 rfl hl (by decide) rfl (fun ls hl => ?_)
            refine lv_iinc (v := nI (i + 1)) (lv' := [(3, .int (nI (i + 1))), (2, .int (cc0 + 1)), (0, .ref (y 0)), (1, .int x)]) hx hb dX2_many_59 hl (k := 3) rfl (nI_1 i) (by decide) rfl (fun ls hl => ?_)
            refine lv_goto (tgt := 16) hx hb dX2_many_62 (by decide) ?_
            exact ih (i + 1) (cc0 + 1) ls (by omega) (by rw [← hq, mqcnt_s, if_pos (by simp [mqat, c_32, c_49])]) (lv_sub hl [2, 3, 1, 0] rfl)
  refine lv_iload_n hx hb dX2_many_0 rfl (lv_at hl 1 rfl) ?_
  refine lv_if_lt (tgt := 10) hx hb dX2_many_1 (by decide) (fun c_1 => ?_) (fun c_1 => ?_)
  · refine lv_iconst (v := (-1)) hx hb dX2_many_10 (by decide) ?_
    exact fx_sret hx hb hr hlocks dX2_many_11 (by unfold mqmany; rw [if_pos c_1])
  · refine lv_iload_n hx hb dX2_many_4 rfl (lv_at hl 1 rfl) ?_
    refine lv_bipush (v := 31) hx hb dX2_many_5 (by decide) ?_
    refine lv_icmp_le (tgt := 12) hx hb dX2_many_7 (by decide) (fun c_7 => ?_) (fun c_7 => ?_)
    · refine lv_iconst (v := 0) hx hb dX2_many_12 (by decide) ?_
      refine lv_istore_n (lv' := [(2, .int 0), (0, .ref (y 0)), (1, .int x)]) hx hb dX2_many_13 rfl hl (by decide) rfl (fun ls hl => ?_)
      refine lv_iconst (v := 0) hx hb dX2_many_14 (by decide) ?_
      refine lv_istore_n (lv' := [(3, .int 0), (2, .int 0), (0, .ref (y 0)), (1, .int x)]) hx hb dX2_many_15 rfl hl (by decide) rfl (fun ls hl => ?_)
      exact K0 n 0 0 ls rfl (by unfold mqmany; rw [if_neg c_1, if_pos c_7]) (lv_sub hl [2, 3, 1, 0] rfl)
    · refine lv_iconst (v := (-1)) hx hb dX2_many_10 (by decide) ?_
      exact fx_sret hx hb hr hlocks dX2_many_11 (by unfold mqmany; rw [if_neg c_1, if_neg c_7])
end
section
theorem cw_RX2_80 {R : Room} {s : State} {args : Array Value} {rm : Room} (hts : ∀ w ∈ wsL_law, w.before args s = true) (hR : rm.frames + 1 ≤ R.frames ∧ 8 + (3 + 11) + rm.locals ≤ R.locals) : CallW R s args RX2 RX2 80 yX2_lower cX2_lower 3 (some .int) (Cond.code yX2_lower cX2_lower 3 (some .int) :: wsL_law) rm rm.cells rm.slots 2 := cwV 2 hts (km_app (km_four km_253 km_107 km_108 km_5) (km_in km_109)) rfl rfl rfl (by decide +kernel) hR
theorem cw_RX2_77 {R : Room} {s : State} {args : Array Value} {rm : Room} (hts : ∀ w ∈ wsL_law, w.before args s = true) (hR : rm.frames + 1 ≤ R.frames ∧ 8 + (3 + 11) + rm.locals ≤ R.locals) : CallW R s args RX2 RX2 77 yX2_push cX2_push 3 (some .int) (Cond.code yX2_push cX2_push 3 (some .int) :: wsL_law) rm rm.cells rm.slots 2 := cwV 2 hts (km_app (km_four km_245 km_93 km_94 km_5) (km_in km_95)) rfl rfl rfl (by decide +kernel) hR
set_option maxHeartbeats 4000000 in
set_option maxRecDepth 100000 in
theorem sq_pop (l : Launch) (dC : Nat → ClassId) (dI : Nat → Nat → Nat) (A : Nat → Prop) (cI cA cZ : ClassId) (rest : va_W) (c0 c1 c2 c3 c4 c5 c6 : Nat × va_E) (y : Nat → Nat) (n : Nat) (hn : n ≤ 40) (ar : Nat) (gl : Int32) (lo pg ca : Int32) (ac : Nat) (hw : Int32) (K F T Ln Wy Fo Tk Ne : Nat → Int32) (hs : mqS n (lo, pg, ca, K)) : Met l yX2_pop (Cond.code yX2_pop cX2_pop 4 (some .int) :: wsL_law) ({ frames := 1, cells := 0, slots := 0, locals := 23 } : Room) (va_Pc [.ref (y 0)] (fx_Pre (dC, dI) classes (fq_ty cI cA cZ) A (wM c0 c1 c2 c3 c4 c5 c6 y cI cZ n ar gl lo pg ca ac hw K F T Ln Wy Fo Tk Ne ++ rest))) (va_Qi (S := mqQ) (fun r u => (r, u) = mqpop n (lo, pg, ca, K)) (fx_B (dC, dI) classes (fq_ty cI cA cZ) A (fun u : mqQ => wM c0 c1 c2 c3 c4 c5 c6 y cI cZ n ar gl u.1 u.2.1 u.2.2.1 ac hw u.2.2.2 F T Ln Wy Fo Tk Ne ++ rest)) A) 0 0 A := by
  refine Met.ofW (cc := cX2_pop) (maxL := 4) (ret := (some .int)) (by decide) rfl ?_
  intro p e s m args below meth c s₁ B0 hml hv
  obtain ⟨rfl, hA, hP, hK, hD, hN⟩ := hv
  have hx := B0.exec
  have hb := B0.bytes
  have hr := B0.returns
  have hts0 := atoms_spec (ws := (Cond.code yX2_pop cX2_pop 4 (some .int) :: wsL_law)) B0.pre
  have hts := fun w (h : w ∈ wsL_law) => hts0 w (List.mem_cons_of_mem _ h)
  have hown : s.vm.findClass RX2 = some m.cls := findClass_of_methodNamed B0.named
  have hlocks := B0.notSynchronized
  have hF : CallFix p m c cX2_pop 4 s ([.ref (y 0)] : List Value).toArray wsL_law RX2 := ⟨hx, hb, hml, hown, hts⟩
  have hS : va_S A s.heap s.heap [] := va_S.rf
  have hl := lv_entry ([.ref (y 0)]) (n := 4) (Nat.le_of_ble_eq_true rfl)
  rw [lg_entry_eq]
  generalize (lg_sl ([.ref (y 0)]) ++ List.replicate (4 - (lg_sl ([.ref (y 0)])).length) Slot.unset).toArray = ls at hl ⊢
  have hl : lv_has ls 4 [(0, .ref (y 0))] := hl
  have hn31 : n < 2 ^ 31 := by omega
  have K51 : ∀ (a : Option Nat) (ls : Array Slot), mqbest K n none = a → lv_has ls 4 [(0, .ref (y 0)), (1, .int (fqopt a))] → W p l e (headSpec (Cond.code yX2_pop cX2_pop 4 (some .int) :: wsL_law) ({ frames := 1, cells := 0, slots := 0, locals := 23 } : Room)).room s m ([.ref (y 0)] : List Value).toArray below meth c s.heap [] 0 0 (MQ below (va_Qi (S := mqQ) (fun r u => (r, u) = mqpop n (lo, pg, ca, K)) (fx_B (dC, dI) classes (fq_ty cI cA cZ) A (fun u : mqQ => wM c0 c1 c2 c3 c4 c5 c6 y cI cZ n ar gl u.1 u.2.1 u.2.2.1 ac hw u.2.2.2 F T Ln Wy Fo Tk Ne ++ rest)) A) ([.ref (y 0)] : List Value).toArray s 0 0 A) (F0 m 51 ls []) := by
    intro a ls ha hl
    cases a with
    | none =>
      have hl : lv_has ls 4 [(0, .ref (y 0)), (1, .int (-1))] := hl
      refine lv_iload_n hx hb dX2_pop_51 rfl (lv_at hl 1 rfl) ?_
      refine lv_iconst (v := (-1)) hx hb dX2_pop_52 (by decide) ?_
      refine lv_icmp_ne (tgt := 58) hx hb dX2_pop_53 (by decide) (fun h9 => absurd h9 (by decide)) (fun _ => ?_)
      refine lv_iconst (v := (-1)) hx hb dX2_pop_56 (by decide) ?_
      exact fx_iret hx hb hr hlocks hK hS dX2_pop_57 (lo, pg, ca, K) (by unfold mqpop; dsimp only; rw [ha]) hP hD
    | some j =>
      obtain ⟨hj, hkj⟩ := (mqbest_in n none j ha).resolve_left (fun h => by cases h)
      have hl : lv_has ls 4 [(0, .ref (y 0)), (1, .int (nI j))] := hl
      refine lv_iload_n hx hb dX2_pop_51 rfl (lv_at hl 1 rfl) ?_
      refine lv_iconst (v := (-1)) hx hb dX2_pop_52 (by decide) ?_
      refine lv_icmp_ne (tgt := 58) hx hb dX2_pop_53 (by decide) (fun c_53 => ?_) (fun c_53 => ?_)
      · refine lv_aload_n hx hb dX2_pop_58 rfl (lv_at hl 0 rfl) ?_
        refine va_get (D := (dC, dI)) (ci := 2) (v := .ref (y 1)) (C := RX2) (T := TX2) (N := 16) hx hb hts inlX2 hown hK hP 7 rfl rfl 3 (by decide) (hts _ km_42) (fun _ h9 => h9) rfl dX2_pop_59 ?_
        refine lv_iload_n hx hb dX2_pop_62 rfl (lv_at hl 1 rfl) ?_
        refine fx_ald hx hb hK hP 8 0 rfl rfl j rfl (by omega) (by decide) dX2_pop_63 ?_
        refine lv_aload_n hx hb dX2_pop_64 rfl (lv_at hl 0 rfl) ?_
        refine va_get (D := (dC, dI)) (ci := 2) (v := .int lo) (C := RX2) (T := TX2) (N := 16) hx hb hts inlX2 hown hK hP 7 rfl rfl 4 (by decide) (hts _ km_58) (fun _ h9 => h9) rfl dX2_pop_65 ?_
        refine fx_Ss (rest := []) (sq_unlike l (K j) lo (hs.2 j hj hkj) hs.1) hF (cw_RX2_64 hts ⟨Nat.le_of_ble_eq_true rfl, Nat.le_of_ble_eq_true rfl⟩) rfl hl.1 rfl (Nat.le_of_ble_eq_true rfl) dX2_pop_68 ⟨Nat.le_of_ble_eq_true rfl, Nat.le_of_ble_eq_true rfl⟩ (fun r9 h9 => ?_)
        subst h9
        refine lv_istore_n (lv' := [(2, .int (nI (fqk (K j) lo))), (0, .ref (y 0)), (1, .int (nI j))]) hx hb dX2_pop_71 rfl hl (by decide) rfl (fun ls hl => ?_)
        refine lv_iload_n hx hb dX2_pop_72 rfl (lv_at hl 0 rfl) ?_
        refine lv_if_le (tgt := 143) hx hb dX2_pop_73 (by decide) (fun c_73 => ?_) (fun c_73 => ?_)
        · refine lv_aload_n hx hb dX2_pop_143 rfl (lv_at hl 1 rfl) ?_
          refine va_get (D := (dC, dI)) (ci := 2) (v := .ref (y 1)) (C := RX2) (T := TX2) (N := 16) hx hb hts inlX2 hown hK hP 7 rfl rfl 3 (by decide) (hts _ km_42) (fun _ h9 => h9) rfl dX2_pop_144 ?_
          refine lv_iload_n hx hb dX2_pop_147 rfl (lv_at hl 2 rfl) ?_
          refine lv_iconst (v := (-1)) hx hb dX2_pop_148 (by decide) ?_
          refine fx_ast hx hb hK hP hD hS 8 0 rfl rfl j rfl (by omega) (by decide) dX2_pop_149 (fun H locs hP hD hS => ?_)
          have hP : va_P (dC, dI) classes (wM c0 c1 c2 c3 c4 c5 c6 y cI cZ n ar gl lo pg ca ac hw (upd K j (-1)) F T Ln Wy Fo Tk Ne ++ rest) H := hP
          have hD : va_D A (wM c0 c1 c2 c3 c4 c5 c6 y cI cZ n ar gl lo pg ca ac hw (upd K j (-1)) F T Ln Wy Fo Tk Ne ++ rest) := hD
          refine lv_iload_n hx hb dX2_pop_150 rfl (lv_at hl 2 rfl) ?_
          exact fx_iret hx hb hr hlocks hK hS dX2_pop_151 (lo, pg, ca, upd K j (-1)) (by unfold mqpop; dsimp only; rw [ha]; dsimp only; rw [if_pos c_73]) hP hD
        · have K78 : ∀ (d i : Nat) (pg' : Int32) (H : Heap) (locs : List Loc) (ls : Array Slot), d + i = n → (mqcnt (mqat K lo (nI (fqk (K j) lo))) d i pg' = mqcnt (mqat K lo (nI (fqk (K j) lo))) n 0 pg) → va_P (dC, dI) classes (wM c0 c1 c2 c3 c4 c5 c6 y cI cZ n ar gl lo pg' ca ac hw K F T Ln Wy Fo Tk Ne ++ rest) H → va_D A (wM c0 c1 c2 c3 c4 c5 c6 y cI cZ n ar gl lo pg' ca ac hw K F T Ln Wy Fo Tk Ne ++ rest) → va_S A s.heap H locs → lv_has ls 4 [(0, .ref (y 0)), (1, .int (nI j)), (2, .int (nI (fqk (K j) lo))), (3, .int (nI i))] → W p l e (headSpec (Cond.code yX2_pop cX2_pop 4 (some .int) :: wsL_law) ({ frames := 1, cells := 0, slots := 0, locals := 23 } : Room)).room s m ([.ref (y 0)] : List Value).toArray below meth c H locs 0 0 (MQ below (va_Qi (S := mqQ) (fun r u => (r, u) = mqpop n (lo, pg, ca, K)) (fx_B (dC, dI) classes (fq_ty cI cA cZ) A (fun u : mqQ => wM c0 c1 c2 c3 c4 c5 c6 y cI cZ n ar gl u.1 u.2.1 u.2.2.1 ac hw u.2.2.2 F T Ln Wy Fo Tk Ne ++ rest)) A) ([.ref (y 0)] : List Value).toArray s 0 0 A) (F0 m 78 ls []) := by
            intro d
            induction d with
            | zero =>
              intro i pg' H locs ls hdi hq hP hD hS hl
              have e0 : i = n := by omega
              refine lv_iload_n hx hb dX2_pop_78 rfl (lv_at hl 3 rfl) ?_
              refine lv_aload_n hx hb dX2_pop_79 rfl (lv_at hl 0 rfl) ?_
              refine va_get (D := (dC, dI)) (ci := 2) (v := .int (nI n)) (C := RX2) (T := TX2) (N := 16) hx hb hts inlX2 hown hK hP 7 rfl rfl 0 (by decide) (hts _ km_51) (fun _ h9 => h9) rfl dX2_pop_80 ?_
              refine lv_icmp_ge (tgt := 133) hx hb dX2_pop_83 (by decide) (fun c_83 => ?_) (fun c_83 => ?_)
              · refine lv_aload_n hx hb dX2_pop_133 rfl (lv_at hl 0 rfl) ?_
                refine lv_aload_n hx hb dX2_pop_134 rfl (lv_at hl 0 rfl) ?_
                refine va_get (D := (dC, dI)) (ci := 2) (v := .ref (y 1)) (C := RX2) (T := TX2) (N := 16) hx hb hts inlX2 hown hK hP 7 rfl rfl 3 (by decide) (hts _ km_42) (fun _ h9 => h9) rfl dX2_pop_135 ?_
                refine lv_iload_n hx hb dX2_pop_138 rfl (lv_at hl 1 rfl) ?_
                refine fx_ald hx hb hK hP 8 0 rfl rfl j rfl (by omega) (by decide) dX2_pop_139 ?_
                refine va_put (D := (dC, dI)) (ci := 2) (v := .int (K j)) (ty := .int) (C := RX2) (T := TX2) (N := 16) hx hb hts inlX2 tyX2 tyX2_ok nmX2 hown hK hP hD hS 7 rfl rfl 4 (by decide) (hts _ km_58) (fun _ h9 => h9) rfl (by decide +kernel) rfl rfl (Nat.le_of_ble_eq_true rfl) dX2_pop_140 (fun H locs hP hD hS => ?_)
                have hP : va_P (dC, dI) classes (wM c0 c1 c2 c3 c4 c5 c6 y cI cZ n ar gl (K j) pg' ca ac hw K F T Ln Wy Fo Tk Ne ++ rest) H := hP
                have hD : va_D A (wM c0 c1 c2 c3 c4 c5 c6 y cI cZ n ar gl (K j) pg' ca ac hw K F T Ln Wy Fo Tk Ne ++ rest) := hD
                refine lv_aload_n hx hb dX2_pop_143 rfl (lv_at hl 0 rfl) ?_
                refine va_get (D := (dC, dI)) (ci := 2) (v := .ref (y 1)) (C := RX2) (T := TX2) (N := 16) hx hb hts inlX2 hown hK hP 7 rfl rfl 3 (by decide) (hts _ km_42) (fun _ h9 => h9) rfl dX2_pop_144 ?_
                refine lv_iload_n hx hb dX2_pop_147 rfl (lv_at hl 1 rfl) ?_
                refine lv_iconst (v := (-1)) hx hb dX2_pop_148 (by decide) ?_
                refine fx_ast hx hb hK hP hD hS 8 0 rfl rfl j rfl (by omega) (by decide) dX2_pop_149 (fun H locs hP hD hS => ?_)
                have hP : va_P (dC, dI) classes (wM c0 c1 c2 c3 c4 c5 c6 y cI cZ n ar gl (K j) pg' ca ac hw (upd K j (-1)) F T Ln Wy Fo Tk Ne ++ rest) H := hP
                have hD : va_D A (wM c0 c1 c2 c3 c4 c5 c6 y cI cZ n ar gl (K j) pg' ca ac hw (upd K j (-1)) F T Ln Wy Fo Tk Ne ++ rest) := hD
                refine lv_iload_n hx hb dX2_pop_150 rfl (lv_at hl 1 rfl) ?_
                exact fx_iret hx hb hr hlocks hK hS dX2_pop_151 (K j, pg', ca, upd K j (-1)) (by unfold mqpop; dsimp only; rw [ha]; dsimp only; rw [if_neg c_73, ← hq]; rfl) hP hD
              · exact absurd (nI_le (by omega) (by omega)) c_83
            | succ d ih =>
              intro i pg' H locs ls hdi hq hP hD hS hl
              have hi : i < n := by omega
              refine lv_iload_n hx hb dX2_pop_78 rfl (lv_at hl 3 rfl) ?_
              refine lv_aload_n hx hb dX2_pop_79 rfl (lv_at hl 0 rfl) ?_
              refine va_get (D := (dC, dI)) (ci := 2) (v := .int (nI n)) (C := RX2) (T := TX2) (N := 16) hx hb hts inlX2 hown hK hP 7 rfl rfl 0 (by decide) (hts _ km_51) (fun _ h9 => h9) rfl dX2_pop_80 ?_
              refine lv_icmp_ge (tgt := 133) hx hb dX2_pop_83 (by decide) (fun c_83 => ?_) (fun c_83 => ?_)
              · exact absurd c_83 (nI_ge hi hn31)
              · refine lv_aload_n hx hb dX2_pop_86 rfl (lv_at hl 0 rfl) ?_
                refine lv_dup hx hb dX2_pop_87 rfl ?_
                refine va_get (D := (dC, dI)) (ci := 2) (v := .int pg') (C := RX2) (T := TX2) (N := 16) hx hb hts inlX2 hown hK hP 7 rfl rfl 5 (by decide) (hts _ km_96) (fun _ h9 => h9) rfl dX2_pop_88 ?_
                refine lv_aload_n hx hb dX2_pop_91 rfl (lv_at hl 0 rfl) ?_
                refine va_get (D := (dC, dI)) (ci := 2) (v := .ref (y 1)) (C := RX2) (T := TX2) (N := 16) hx hb hts inlX2 hown hK hP 7 rfl rfl 3 (by decide) (hts _ km_42) (fun _ h9 => h9) rfl dX2_pop_92 ?_
                refine lv_iload_n hx hb dX2_pop_95 rfl (lv_at hl 3 rfl) ?_
                refine fx_ald hx hb hK hP 8 0 rfl rfl i rfl (by omega) (by decide) dX2_pop_96 ?_
                refine lv_iconst (v := (-1)) hx hb dX2_pop_97 (by decide) ?_
                refine lv_icmp_eq (tgt := 122) hx hb dX2_pop_98 (by decide) (fun c_98 => ?_) (fun c_98 => ?_)
                · refine lv_iconst (v := 0) hx hb dX2_pop_122 (by decide) ?_
                  refine lv_iadd hx hb dX2_pop_123 ?_
                  refine va_put (D := (dC, dI)) (ci := 2) (v := .int (pg' + 0)) (ty := .int) (C := RX2) (T := TX2) (N := 16) hx hb hts inlX2 tyX2 tyX2_ok nmX2 hown hK hP hD hS 7 rfl rfl 5 (by decide) (hts _ km_96) (fun _ h9 => h9) rfl (by decide +kernel) rfl rfl (Nat.le_of_ble_eq_true rfl) dX2_pop_124 (fun H locs hP hD hS => ?_)
                  have hP : va_P (dC, dI) classes (wM c0 c1 c2 c3 c4 c5 c6 y cI cZ n ar gl lo (pg' + 0) ca ac hw K F T Ln Wy Fo Tk Ne ++ rest) H := hP
                  have hD : va_D A (wM c0 c1 c2 c3 c4 c5 c6 y cI cZ n ar gl lo (pg' + 0) ca ac hw K F T Ln Wy Fo Tk Ne ++ rest) := hD
                  refine lv_iinc (v := nI (i + 1)) (lv' := [(3, .int (nI (i + 1))), (0, .ref (y 0)), (1, .int (nI j)), (2, .int (nI (fqk (K j) lo)))]) hx hb dX2_pop_127 hl (k := 3) rfl (nI_1 i) (by decide) rfl (fun ls hl => ?_)
                  refine lv_goto (tgt := 78) hx hb dX2_pop_130 (by decide) ?_
                  exact ih (i + 1) (pg' + 0) H locs ls (by omega) (by rw [← hq, mqcnt_s, if_neg (by simp [mqat, c_98])]) hP hD hS (lv_sub hl [1, 2, 3, 0] rfl)
                · refine lv_aload_n hx hb dX2_pop_101 rfl (lv_at hl 0 rfl) ?_
                  refine va_get (D := (dC, dI)) (ci := 2) (v := .ref (y 1)) (C := RX2) (T := TX2) (N := 16) hx hb hts inlX2 hown hK hP 7 rfl rfl 3 (by decide) (hts _ km_42) (fun _ h9 => h9) rfl dX2_pop_102 ?_
                  refine lv_iload_n hx hb dX2_pop_105 rfl (lv_at hl 3 rfl) ?_
                  refine fx_ald hx hb hK hP 8 0 rfl rfl i rfl (by omega) (by decide) dX2_pop_106 ?_
                  refine lv_aload_n hx hb dX2_pop_107 rfl (lv_at hl 0 rfl) ?_
                  refine va_get (D := (dC, dI)) (ci := 2) (v := .int lo) (C := RX2) (T := TX2) (N := 16) hx hb hts inlX2 hown hK hP 7 rfl rfl 4 (by decide) (hts _ km_58) (fun _ h9 => h9) rfl dX2_pop_108 ?_
                  refine fx_Ss (rest := [.int pg', .ref (y 0)]) (sq_unlike l (K i) lo (hs.2 i hi c_98) hs.1) hF (cw_RX2_64 hts ⟨Nat.le_of_ble_eq_true rfl, Nat.le_of_ble_eq_true rfl⟩) rfl hl.1 rfl (Nat.le_of_ble_eq_true rfl) dX2_pop_111 ⟨Nat.le_of_ble_eq_true rfl, Nat.le_of_ble_eq_true rfl⟩ (fun r9 h9 => ?_)
                  subst h9
                  refine lv_iload_n hx hb dX2_pop_114 rfl (lv_at hl 2 rfl) ?_
                  refine lv_icmp_ne (tgt := 122) hx hb dX2_pop_115 (by decide) (fun c_115 => ?_) (fun c_115 => ?_)
                  · refine lv_iconst (v := 0) hx hb dX2_pop_122 (by decide) ?_
                    refine lv_iadd hx hb dX2_pop_123 ?_
                    refine va_put (D := (dC, dI)) (ci := 2) (v := .int (pg' + 0)) (ty := .int) (C := RX2) (T := TX2) (N := 16) hx hb hts inlX2 tyX2 tyX2_ok nmX2 hown hK hP hD hS 7 rfl rfl 5 (by decide) (hts _ km_96) (fun _ h9 => h9) rfl (by decide +kernel) rfl rfl (Nat.le_of_ble_eq_true rfl) dX2_pop_124 (fun H locs hP hD hS => ?_)
                    have hP : va_P (dC, dI) classes (wM c0 c1 c2 c3 c4 c5 c6 y cI cZ n ar gl lo (pg' + 0) ca ac hw K F T Ln Wy Fo Tk Ne ++ rest) H := hP
                    have hD : va_D A (wM c0 c1 c2 c3 c4 c5 c6 y cI cZ n ar gl lo (pg' + 0) ca ac hw K F T Ln Wy Fo Tk Ne ++ rest) := hD
                    refine lv_iinc (v := nI (i + 1)) (lv' := [(3, .int (nI (i + 1))), (0, .ref (y 0)), (1, .int (nI j)), (2, .int (nI (fqk (K j) lo)))]) hx hb dX2_pop_127 hl (k := 3) rfl (nI_1 i) (by decide) rfl (fun ls hl => ?_)
                    refine lv_goto (tgt := 78) hx hb dX2_pop_130 (by decide) ?_
                    exact ih (i + 1) (pg' + 0) H locs ls (by omega) (by rw [← hq, mqcnt_s, if_neg (by simp [mqat, c_115])]) hP hD hS (lv_sub hl [1, 2, 3, 0] rfl)
                  · refine lv_iconst (v := 1) hx hb dX2_pop_118 (by decide) ?_
                    refine lv_goto (tgt := 123) hx hb dX2_pop_119 (by decide) ?_
                    refine lv_iadd hx hb dX2_pop_123 ?_
                    refine va_put (D := (dC, dI)) (ci := 2) (v := .int (pg' + 1)) (ty := .int) (C := RX2) (T := TX2) (N := 16) hx hb hts inlX2 tyX2 tyX2_ok nmX2 hown hK hP hD hS 7 rfl rfl 5 (by decide) (hts _ km_96) (fun _ h9 => h9) rfl (by decide +kernel) rfl rfl (Nat.le_of_ble_eq_true rfl) dX2_pop_124 (fun H locs hP hD hS => ?_)
                    have hP : va_P (dC, dI) classes (wM c0 c1 c2 c3 c4 c5 c6 y cI cZ n ar gl lo (pg' + 1) ca ac hw K F T Ln Wy Fo Tk Ne ++ rest) H := hP
                    have hD : va_D A (wM c0 c1 c2 c3 c4 c5 c6 y cI cZ n ar gl lo (pg' + 1) ca ac hw K F T Ln Wy Fo Tk Ne ++ rest) := hD
                    refine lv_iinc (v := nI (i + 1)) (lv' := [(3, .int (nI (i + 1))), (0, .ref (y 0)), (1, .int (nI j)), (2, .int (nI (fqk (K j) lo)))]) hx hb dX2_pop_127 hl (k := 3) rfl (nI_1 i) (by decide) rfl (fun ls hl => ?_)
                    refine lv_goto (tgt := 78) hx hb dX2_pop_130 (by decide) ?_
                    exact ih (i + 1) (pg' + 1) H locs ls (by omega) (by rw [← hq, mqcnt_s, if_pos (by simp [mqat, c_98, c_115])]) hP hD hS (lv_sub hl [1, 2, 3, 0] rfl)
          refine lv_iconst (v := 0) hx hb dX2_pop_76 (by decide) ?_
          refine lv_istore_n (lv' := [(3, .int 0), (2, .int (nI (fqk (K j) lo))), (0, .ref (y 0)), (1, .int (nI j))]) hx hb dX2_pop_77 rfl hl (by decide) rfl (fun ls hl => ?_)
          exact K78 n 0 pg s.heap [] ls rfl rfl hP hD hS (lv_sub hl [2, 3, 1, 0] rfl)
      · exact absurd c_53 (fq_nm1 (by omega))
  have K9 : ∀ (d : Nat) (a : Option Nat) (ls : Array Slot), d ≤ n → mqbest K d a = mqbest K n none → (∀ j, a = some j → j < n) → lv_has ls 4 [(0, .ref (y 0)), (1, .int (fqopt a)), (2, .int (nI d - 1))] → W p l e (headSpec (Cond.code yX2_pop cX2_pop 4 (some .int) :: wsL_law) ({ frames := 1, cells := 0, slots := 0, locals := 23 } : Room)).room s m ([.ref (y 0)] : List Value).toArray below meth c s.heap [] 0 0 (MQ below (va_Qi (S := mqQ) (fun r u => (r, u) = mqpop n (lo, pg, ca, K)) (fx_B (dC, dI) classes (fq_ty cI cA cZ) A (fun u : mqQ => wM c0 c1 c2 c3 c4 c5 c6 y cI cZ n ar gl u.1 u.2.1 u.2.2.1 ac hw u.2.2.2 F T Ln Wy Fo Tk Ne ++ rest)) A) ([.ref (y 0)] : List Value).toArray s 0 0 A) (F0 m 9 ls []) := by
    intro d
    induction d with
    | zero =>
      intro a ls hd hq hja hl
      rw [show nI 0 - 1 = -1 by decide] at hl
      refine lv_iload_n hx hb dX2_pop_9 rfl (lv_at hl 2 rfl) ?_
      refine lv_if_lt (tgt := 51) hx hb dX2_pop_10 (by decide) (fun _ => ?_) (fun h9 => absurd h9 (by decide))
      exact K51 a ls hq.symm (lv_sub hl [0, 1] rfl)
    | succ d ih =>
      intro a ls hd hq hja hl
      rw [nI_pred] at hl
      have hdn : d < n := by omega
      cases a with
      | none =>
        have hl : lv_has ls 4 [(0, .ref (y 0)), (1, .int (-1)), (2, .int (nI d))] := hl
        refine lv_iload_n hx hb dX2_pop_9 rfl (lv_at hl 2 rfl) ?_
        refine lv_if_lt (tgt := 51) hx hb dX2_pop_10 (by decide) (fun c_10 => ?_) (fun c_10 => ?_)
        · exact absurd c_10 (nI_pos (by omega))
        · refine lv_aload_n hx hb dX2_pop_13 rfl (lv_at hl 0 rfl) ?_
          refine va_get (D := (dC, dI)) (ci := 2) (v := .ref (y 1)) (C := RX2) (T := TX2) (N := 16) hx hb hts inlX2 hown hK hP 7 rfl rfl 3 (by decide) (hts _ km_42) (fun _ h9 => h9) rfl dX2_pop_14 ?_
          refine lv_iload_n hx hb dX2_pop_17 rfl (lv_at hl 2 rfl) ?_
          refine fx_ald hx hb hK hP 8 0 rfl rfl d rfl (by omega) (by decide) dX2_pop_18 ?_
          refine lv_iconst (v := (-1)) hx hb dX2_pop_19 (by decide) ?_
          refine lv_icmp_eq (tgt := 45) hx hb dX2_pop_20 (by decide) (fun c_20 => ?_) (fun c_20 => ?_)
          · refine lv_iinc (v := nI d - 1) (lv' := [(2, .int (nI d - 1)), (0, .ref (y 0)), (1, .int (-1))]) hx hb dX2_pop_45 hl (k := 2) rfl (mq_m1 _) (by decide) rfl (fun ls hl => ?_)
            refine lv_goto (tgt := 9) hx hb dX2_pop_48 (by decide) ?_
            exact ih none ls (by omega) (by rw [← hq, mqbest_none, if_neg (fun h => h c_20)]) hja (lv_sub hl [1, 2, 0] rfl)
          · refine lv_iload_n hx hb dX2_pop_23 rfl (lv_at hl 1 rfl) ?_
            refine lv_iconst (v := (-1)) hx hb dX2_pop_24 (by decide) ?_
            refine lv_icmp_eq (tgt := 43) hx hb dX2_pop_25 (by decide) (fun _ => ?_) (fun h9 => absurd h9 (by decide))
            refine lv_iload_n hx hb dX2_pop_43 rfl (lv_at hl 2 rfl) ?_
            refine lv_istore_n (lv' := [(1, .int (nI d)), (0, .ref (y 0)), (2, .int (nI d))]) hx hb dX2_pop_44 rfl hl (by decide) rfl (fun ls hl => ?_)
            refine lv_iinc (v := nI d - 1) (lv' := [(2, .int (nI d - 1)), (1, .int (nI d)), (0, .ref (y 0))]) hx hb dX2_pop_45 hl (k := 2) rfl (mq_m1 _) (by decide) rfl (fun ls hl => ?_)
            refine lv_goto (tgt := 9) hx hb dX2_pop_48 (by decide) ?_
            exact ih (some d) ls (by omega) (by rw [← hq, mqbest_none, if_pos c_20]) (fun j h => by cases h; exact hdn) (lv_sub hl [2, 1, 0] rfl)
      | some jb =>
        have hl : lv_has ls 4 [(0, .ref (y 0)), (1, .int (nI jb)), (2, .int (nI d))] := hl
        have hjb := hja jb rfl
        refine lv_iload_n hx hb dX2_pop_9 rfl (lv_at hl 2 rfl) ?_
        refine lv_if_lt (tgt := 51) hx hb dX2_pop_10 (by decide) (fun c_10 => ?_) (fun c_10 => ?_)
        · exact absurd c_10 (nI_pos (by omega))
        · refine lv_aload_n hx hb dX2_pop_13 rfl (lv_at hl 0 rfl) ?_
          refine va_get (D := (dC, dI)) (ci := 2) (v := .ref (y 1)) (C := RX2) (T := TX2) (N := 16) hx hb hts inlX2 hown hK hP 7 rfl rfl 3 (by decide) (hts _ km_42) (fun _ h9 => h9) rfl dX2_pop_14 ?_
          refine lv_iload_n hx hb dX2_pop_17 rfl (lv_at hl 2 rfl) ?_
          refine fx_ald hx hb hK hP 8 0 rfl rfl d rfl (by omega) (by decide) dX2_pop_18 ?_
          refine lv_iconst (v := (-1)) hx hb dX2_pop_19 (by decide) ?_
          refine lv_icmp_eq (tgt := 45) hx hb dX2_pop_20 (by decide) (fun c_20 => ?_) (fun c_20 => ?_)
          · refine lv_iinc (v := nI d - 1) (lv' := [(2, .int (nI d - 1)), (0, .ref (y 0)), (1, .int (nI jb))]) hx hb dX2_pop_45 hl (k := 2) rfl (mq_m1 _) (by decide) rfl (fun ls hl => ?_)
            refine lv_goto (tgt := 9) hx hb dX2_pop_48 (by decide) ?_
            exact ih (some jb) ls (by omega) (by rw [← hq, mqbest_some, if_neg (fun h => h.1 c_20)]) hja (lv_sub hl [1, 2, 0] rfl)
          · refine lv_iload_n hx hb dX2_pop_23 rfl (lv_at hl 1 rfl) ?_
            refine lv_iconst (v := (-1)) hx hb dX2_pop_24 (by decide) ?_
            refine lv_icmp_eq (tgt := 43) hx hb dX2_pop_25 (by decide) (fun c_25 => ?_) (fun c_25 => ?_)
            · exact absurd c_25 (fq_nm1 (by omega))
            · refine lv_aload_n hx hb dX2_pop_28 rfl (lv_at hl 0 rfl) ?_
              refine va_get (D := (dC, dI)) (ci := 2) (v := .ref (y 1)) (C := RX2) (T := TX2) (N := 16) hx hb hts inlX2 hown hK hP 7 rfl rfl 3 (by decide) (hts _ km_42) (fun _ h9 => h9) rfl dX2_pop_29 ?_
              refine lv_iload_n hx hb dX2_pop_32 rfl (lv_at hl 2 rfl) ?_
              refine fx_ald hx hb hK hP 8 0 rfl rfl d rfl (by omega) (by decide) dX2_pop_33 ?_
              refine lv_aload_n hx hb dX2_pop_34 rfl (lv_at hl 0 rfl) ?_
              refine va_get (D := (dC, dI)) (ci := 2) (v := .ref (y 1)) (C := RX2) (T := TX2) (N := 16) hx hb hts inlX2 hown hK hP 7 rfl rfl 3 (by decide) (hts _ km_42) (fun _ h9 => h9) rfl dX2_pop_35 ?_
              refine lv_iload_n hx hb dX2_pop_38 rfl (lv_at hl 1 rfl) ?_
              refine fx_ald hx hb hK hP 8 0 rfl rfl jb rfl (by omega) (by decide) dX2_pop_39 ?_
              refine lv_icmp_gt (tgt := 45) hx hb dX2_pop_40 (by decide) (fun c_40 => ?_) (fun c_40 => ?_)
              · refine lv_iinc (v := nI d - 1) (lv' := [(2, .int (nI d - 1)), (0, .ref (y 0)), (1, .int (nI jb))]) hx hb dX2_pop_45 hl (k := 2) rfl (mq_m1 _) (by decide) rfl (fun ls hl => ?_)
                refine lv_goto (tgt := 9) hx hb dX2_pop_48 (by decide) ?_
                exact ih (some jb) ls (by omega) (by rw [← hq, mqbest_some, if_neg (fun h => absurd h.2 (Int32.not_le.mpr c_40))]) hja (lv_sub hl [1, 2, 0] rfl)
              · refine lv_iload_n hx hb dX2_pop_43 rfl (lv_at hl 2 rfl) ?_
                refine lv_istore_n (lv' := [(1, .int (nI d)), (0, .ref (y 0)), (2, .int (nI d))]) hx hb dX2_pop_44 rfl hl (by decide) rfl (fun ls hl => ?_)
                refine lv_iinc (v := nI d - 1) (lv' := [(2, .int (nI d - 1)), (1, .int (nI d)), (0, .ref (y 0))]) hx hb dX2_pop_45 hl (k := 2) rfl (mq_m1 _) (by decide) rfl (fun ls hl => ?_)
                refine lv_goto (tgt := 9) hx hb dX2_pop_48 (by decide) ?_
                exact ih (some d) ls (by omega) (by rw [← hq, mqbest_some, if_pos ⟨c_20, Int32.not_lt.mp c_40⟩]) (fun j h => by cases h; exact hdn) (lv_sub hl [2, 1, 0] rfl)
  refine lv_iconst (v := (-1)) hx hb dX2_pop_0 (by decide) ?_
  refine lv_istore_n (lv' := [(1, .int (-1)), (0, .ref (y 0))]) hx hb dX2_pop_1 rfl hl (by decide) rfl (fun ls hl => ?_)
  refine lv_aload_n hx hb dX2_pop_2 rfl (lv_at hl 1 rfl) ?_
  refine va_get (D := (dC, dI)) (ci := 2) (v := .int (nI n)) (C := RX2) (T := TX2) (N := 16) hx hb hts inlX2 hown hK hP 7 rfl rfl 0 (by decide) (hts _ km_51) (fun _ h9 => h9) rfl dX2_pop_3 ?_
  refine lv_iconst (v := 1) hx hb dX2_pop_6 (by decide) ?_
  refine lv_isub hx hb dX2_pop_7 ?_
  refine lv_istore_n (lv' := [(2, .int ((nI n) - 1)), (1, .int (-1)), (0, .ref (y 0))]) hx hb dX2_pop_8 rfl hl (by decide) rfl (fun ls hl => ?_)
  exact K9 n none ls (Nat.le_refl _) rfl (fun _ h => by cases h) (lv_sub hl [2, 1, 0] rfl)
set_option maxHeartbeats 4000000 in
set_option maxRecDepth 100000 in
theorem sq_arc (l : Launch) (dC : Nat → ClassId) (dI : Nat → Nat → Nat) (A : Nat → Prop) (cI cA cZ : ClassId) (rest : va_W) (c0 c1 c2 c3 c4 c5 c6 : Nat × va_E) (y : Nat → Nat) (n : Nat) (hn : n ≤ 40) (ar : Nat) (gl : Int32) (lo pg ca : Int32) (ac : Nat) (hw : Int32) (K F T Ln Wy Fo Tk Ne : Nat → Int32) (xu xv w : Int32) (har : ar ≤ 300) (hac : ac ≤ ar) : Met l yX2_arc (Cond.code yX2_arc cX2_arc 4 (some .int) :: wsL_law) ({ frames := 1, cells := 0, slots := 0, locals := 21 } : Room) (va_Pc [.ref (y 0), .int xu, .int xv, .int w] (fx_Pre (dC, dI) classes (fq_ty cI cA cZ) A (wM c0 c1 c2 c3 c4 c5 c6 y cI cZ n ar gl lo pg ca ac hw K F T Ln Wy Fo Tk Ne ++ rest))) (va_Qi (S := (Nat × Int32 × (Nat → Int32) × (Nat → Int32) × (Nat → Int32))) (fun r u => (r, u) = mqarc n ar gl (ac, hw, F, T, Ln) xu xv w) (fx_B (dC, dI) classes (fq_ty cI cA cZ) A (fun u => wM c0 c1 c2 c3 c4 c5 c6 y cI cZ n ar gl lo pg ca u.1 u.2.1 K u.2.2.1 u.2.2.2.1 u.2.2.2.2 Wy Fo Tk Ne ++ rest)) A) 0 0 A := by
  refine Met.ofW (cc := cX2_arc) (maxL := 4) (ret := (some .int)) (by decide) rfl ?_
  intro p e s m args below meth c s₁ B0 hml hv
  obtain ⟨rfl, hA, hP, hK, hD, hN⟩ := hv
  have hx := B0.exec
  have hb := B0.bytes
  have hr := B0.returns
  have hts0 := atoms_spec (ws := (Cond.code yX2_arc cX2_arc 4 (some .int) :: wsL_law)) B0.pre
  have hts := fun w (h : w ∈ wsL_law) => hts0 w (List.mem_cons_of_mem _ h)
  have hown : s.vm.findClass RX2 = some m.cls := findClass_of_methodNamed B0.named
  have hlocks := B0.notSynchronized
  have hF : CallFix p m c cX2_arc 4 s ([.ref (y 0), .int xu, .int xv, .int w] : List Value).toArray wsL_law RX2 := ⟨hx, hb, hml, hown, hts⟩
  have hS : va_S A s.heap s.heap [] := va_S.rf
  have hl := lv_entry ([.ref (y 0), .int xu, .int xv, .int w]) (n := 4) (Nat.le_of_ble_eq_true rfl)
  rw [lg_entry_eq]
  generalize (lg_sl ([.ref (y 0), .int xu, .int xv, .int w]) ++ List.replicate (4 - (lg_sl ([.ref (y 0), .int xu, .int xv, .int w])).length) Slot.unset).toArray = ls at hl ⊢
  have hl : lv_has ls 4 [(0, .ref (y 0)), (1, .int xu), (2, .int xv), (3, .int w)] := hl
  have hn31 : n < 2 ^ 31 := by omega
  refine lv_aload_n hx hb dX2_arc_0 rfl (lv_at hl 0 rfl) ?_
  refine lv_iload_n hx hb dX2_arc_1 rfl (lv_at hl 1 rfl) ?_
  refine fx_Vs (rest := []) (sq_isItem l dC dI A cI cA cZ rest c0 c1 c2 c3 c4 c5 c6 y n hn ar gl lo pg ca ac hw K F T Ln Wy Fo Tk Ne xu) hF (cw_RX2_51 hts ⟨Nat.le_of_ble_eq_true rfl, Nat.le_of_ble_eq_true rfl⟩) hA hS hP hK hD hN 7 2 rfl rfl rfl hl.1 rfl (Nat.le_of_ble_eq_true rfl) dX2_arc_2 ⟨Nat.le_of_ble_eq_true rfl, Nat.le_of_ble_eq_true rfl⟩ (fun r h => ?_)
  rcases h with ⟨rfl, ⟨j, hj, rfl⟩⟩ | ⟨rfl, h⟩
  · refine lv_if_eq (tgt := 16) hx hb dX2_arc_5 (by decide) (fun h9 => absurd h9 (by decide)) (fun _ => ?_)
    refine lv_aload_n hx hb dX2_arc_8 rfl (lv_at hl 0 rfl) ?_
    refine lv_iload_n hx hb dX2_arc_9 rfl (lv_at hl 2 rfl) ?_
    refine fx_Vs (rest := []) (sq_isItem l dC dI A cI cA cZ rest c0 c1 c2 c3 c4 c5 c6 y n hn ar gl lo pg ca ac hw K F T Ln Wy Fo Tk Ne xv) hF (cw_RX2_51 hts ⟨Nat.le_of_ble_eq_true rfl, Nat.le_of_ble_eq_true rfl⟩) hA hS hP hK hD hN 7 2 rfl rfl rfl hl.1 rfl (Nat.le_of_ble_eq_true rfl) dX2_arc_10 ⟨Nat.le_of_ble_eq_true rfl, Nat.le_of_ble_eq_true rfl⟩ (fun r h => ?_)
    rcases h with ⟨rfl, ⟨k, hk, rfl⟩⟩ | ⟨rfl, h⟩
    · refine lv_if_ne (tgt := 18) hx hb dX2_arc_13 (by decide) (fun _ => ?_) (fun h9 => absurd h9 (by decide))
      refine lv_iload_n hx hb dX2_arc_18 rfl (lv_at hl 3 rfl) ?_
      refine lv_if_lt (tgt := 30) hx hb dX2_arc_19 (by decide) (fun c_19 => ?_) (fun c_19 => ?_)
      · refine lv_bipush (v := (-2)) hx hb dX2_arc_30 (by decide) ?_
        have hR : fqarcR n (nI ar) gl (nI ac) (nI j) (nI k) w = -2 := by unfold fqarcR; rw [fqat_some hj hn31, fqat_some hk hn31]; dsimp only; rw [if_pos c_19]
        exact fx_iret hx hb hr hlocks hK hS dX2_arc_32 (ac, hw, F, T, Ln) (by unfold mqarc; dsimp only; rw [hR]; rfl) hP hD
      · refine lv_iload_n hx hb dX2_arc_22 rfl (lv_at hl 3 rfl) ?_
        refine lv_aload_n hx hb dX2_arc_23 rfl (lv_at hl 0 rfl) ?_
        refine va_get (D := (dC, dI)) (ci := 2) (v := .int gl) (C := RX2) (T := TX2) (N := 16) hx hb hts inlX2 hown hK hP 7 rfl rfl 2 (by decide) (hts _ km_53) (fun _ h9 => h9) rfl dX2_arc_24 ?_
        refine lv_icmp_le (tgt := 33) hx hb dX2_arc_27 (by decide) (fun c_27 => ?_) (fun c_27 => ?_)
        · refine lv_aload_n hx hb dX2_arc_33 rfl (lv_at hl 0 rfl) ?_
          refine va_get (D := (dC, dI)) (ci := 2) (v := .int (nI ac)) (C := RX2) (T := TX2) (N := 16) hx hb hts inlX2 hown hK hP 7 rfl rfl 7 (by decide) (hts _ km_210) (fun _ h9 => h9) rfl dX2_arc_34 ?_
          refine lv_aload_n hx hb dX2_arc_37 rfl (lv_at hl 0 rfl) ?_
          refine va_get (D := (dC, dI)) (ci := 2) (v := .int (nI ar)) (C := RX2) (T := TX2) (N := 16) hx hb hts inlX2 hown hK hP 7 rfl rfl 1 (by decide) (hts _ km_52) (fun _ h9 => h9) rfl dX2_arc_38 ?_
          refine lv_icmp_ne (tgt := 47) hx hb dX2_arc_41 (by decide) (fun c_41 => ?_) (fun c_41 => ?_)
          · have hlt : ac < ar := Nat.lt_of_le_of_ne hac (fun e9 => c_41 (by rw [e9]))
            refine lv_aload_n hx hb dX2_arc_47 rfl (lv_at hl 0 rfl) ?_
            refine va_get (D := (dC, dI)) (ci := 2) (v := .ref (y 2)) (C := RX2) (T := TX2) (N := 16) hx hb hts inlX2 hown hK hP 7 rfl rfl 8 (by decide) (hts _ km_43) (fun _ h9 => h9) rfl dX2_arc_48 ?_
            refine lv_aload_n hx hb dX2_arc_51 rfl (lv_at hl 0 rfl) ?_
            refine va_get (D := (dC, dI)) (ci := 2) (v := .int (nI ac)) (C := RX2) (T := TX2) (N := 16) hx hb hts inlX2 hown hK hP 7 rfl rfl 7 (by decide) (hts _ km_210) (fun _ h9 => h9) rfl dX2_arc_52 ?_
            refine lv_iload_n hx hb dX2_arc_55 rfl (lv_at hl 1 rfl) ?_
            refine fx_ast hx hb hK hP hD hS 9 0 rfl rfl ac rfl (by omega) (by decide) dX2_arc_56 (fun H locs hP hD hS => ?_)
            have hP : va_P (dC, dI) classes (wM c0 c1 c2 c3 c4 c5 c6 y cI cZ n ar gl lo pg ca ac hw K (upd F ac (nI j)) T Ln Wy Fo Tk Ne ++ rest) H := hP
            have hD : va_D A (wM c0 c1 c2 c3 c4 c5 c6 y cI cZ n ar gl lo pg ca ac hw K (upd F ac (nI j)) T Ln Wy Fo Tk Ne ++ rest) := hD
            refine lv_aload_n hx hb dX2_arc_57 rfl (lv_at hl 0 rfl) ?_
            refine va_get (D := (dC, dI)) (ci := 2) (v := .ref (y 3)) (C := RX2) (T := TX2) (N := 16) hx hb hts inlX2 hown hK hP 7 rfl rfl 9 (by decide) (hts _ km_44) (fun _ h9 => h9) rfl dX2_arc_58 ?_
            refine lv_aload_n hx hb dX2_arc_61 rfl (lv_at hl 0 rfl) ?_
            refine va_get (D := (dC, dI)) (ci := 2) (v := .int (nI ac)) (C := RX2) (T := TX2) (N := 16) hx hb hts inlX2 hown hK hP 7 rfl rfl 7 (by decide) (hts _ km_210) (fun _ h9 => h9) rfl dX2_arc_62 ?_
            refine lv_iload_n hx hb dX2_arc_65 rfl (lv_at hl 2 rfl) ?_
            refine fx_ast hx hb hK hP hD hS 10 0 rfl rfl ac rfl (by omega) (by decide) dX2_arc_66 (fun H locs hP hD hS => ?_)
            have hP : va_P (dC, dI) classes (wM c0 c1 c2 c3 c4 c5 c6 y cI cZ n ar gl lo pg ca ac hw K (upd F ac (nI j)) (upd T ac (nI k)) Ln Wy Fo Tk Ne ++ rest) H := hP
            have hD : va_D A (wM c0 c1 c2 c3 c4 c5 c6 y cI cZ n ar gl lo pg ca ac hw K (upd F ac (nI j)) (upd T ac (nI k)) Ln Wy Fo Tk Ne ++ rest) := hD
            refine lv_aload_n hx hb dX2_arc_67 rfl (lv_at hl 0 rfl) ?_
            refine va_get (D := (dC, dI)) (ci := 2) (v := .ref (y 4)) (C := RX2) (T := TX2) (N := 16) hx hb hts inlX2 hown hK hP 7 rfl rfl 10 (by decide) (hts _ km_45) (fun _ h9 => h9) rfl dX2_arc_68 ?_
            refine lv_aload_n hx hb dX2_arc_71 rfl (lv_at hl 0 rfl) ?_
            refine va_get (D := (dC, dI)) (ci := 2) (v := .int (nI ac)) (C := RX2) (T := TX2) (N := 16) hx hb hts inlX2 hown hK hP 7 rfl rfl 7 (by decide) (hts _ km_210) (fun _ h9 => h9) rfl dX2_arc_72 ?_
            refine lv_iload_n hx hb dX2_arc_75 rfl (lv_at hl 3 rfl) ?_
            refine fx_ast hx hb hK hP hD hS 11 0 rfl rfl ac rfl (by omega) (by decide) dX2_arc_76 (fun H locs hP hD hS => ?_)
            have hP : va_P (dC, dI) classes (wM c0 c1 c2 c3 c4 c5 c6 y cI cZ n ar gl lo pg ca ac hw K (upd F ac (nI j)) (upd T ac (nI k)) (upd Ln ac w) Wy Fo Tk Ne ++ rest) H := hP
            have hD : va_D A (wM c0 c1 c2 c3 c4 c5 c6 y cI cZ n ar gl lo pg ca ac hw K (upd F ac (nI j)) (upd T ac (nI k)) (upd Ln ac w) Wy Fo Tk Ne ++ rest) := hD
            refine lv_aload_n hx hb dX2_arc_77 rfl (lv_at hl 0 rfl) ?_
            refine lv_dup hx hb dX2_arc_78 rfl ?_
            refine va_get (D := (dC, dI)) (ci := 2) (v := .int (nI ac)) (C := RX2) (T := TX2) (N := 16) hx hb hts inlX2 hown hK hP 7 rfl rfl 7 (by decide) (hts _ km_210) (fun _ h9 => h9) rfl dX2_arc_79 ?_
            refine lv_iconst (v := 1) hx hb dX2_arc_82 (by decide) ?_
            refine lv_iadd hx hb dX2_arc_83 ?_
            refine fx_is (nI_1 ac) ?_
            refine va_put (D := (dC, dI)) (ci := 2) (v := .int (nI (ac + 1))) (ty := .int) (C := RX2) (T := TX2) (N := 16) hx hb hts inlX2 tyX2 tyX2_ok nmX2 hown hK hP hD hS 7 rfl rfl 7 (by decide) (hts _ km_210) (fun _ h9 => h9) rfl (by decide +kernel) rfl rfl (Nat.le_of_ble_eq_true rfl) dX2_arc_84 (fun H locs hP hD hS => ?_)
            have hP : va_P (dC, dI) classes (wM c0 c1 c2 c3 c4 c5 c6 y cI cZ n ar gl lo pg ca (ac + 1) hw K (upd F ac (nI j)) (upd T ac (nI k)) (upd Ln ac w) Wy Fo Tk Ne ++ rest) H := hP
            have hD : va_D A (wM c0 c1 c2 c3 c4 c5 c6 y cI cZ n ar gl lo pg ca (ac + 1) hw K (upd F ac (nI j)) (upd T ac (nI k)) (upd Ln ac w) Wy Fo Tk Ne ++ rest) := hD
            refine lv_aload_n hx hb dX2_arc_87 rfl (lv_at hl 0 rfl) ?_
            refine lv_iconst (v := 0) hx hb dX2_arc_88 (by decide) ?_
            refine va_put (D := (dC, dI)) (ci := 2) (v := .int 0) (ty := .boolean) (C := RX2) (T := TX2) (N := 16) hx hb hts inlX2 tyX2 tyX2_ok nmX2 hown hK hP hD hS 7 rfl rfl 11 (by decide) (hts _ km_211) (fun _ h9 => h9) rfl (by decide +kernel) rfl rfl (Nat.le_of_ble_eq_true rfl) dX2_arc_89 (fun H locs hP hD hS => ?_)
            have hP : va_P (dC, dI) classes (wM c0 c1 c2 c3 c4 c5 c6 y cI cZ n ar gl lo pg ca (ac + 1) 0 K (upd F ac (nI j)) (upd T ac (nI k)) (upd Ln ac w) Wy Fo Tk Ne ++ rest) H := hP
            have hD : va_D A (wM c0 c1 c2 c3 c4 c5 c6 y cI cZ n ar gl lo pg ca (ac + 1) 0 K (upd F ac (nI j)) (upd T ac (nI k)) (upd Ln ac w) Wy Fo Tk Ne ++ rest) := hD
            refine lv_iconst (v := 0) hx hb dX2_arc_92 (by decide) ?_
            have hR : fqarcR n (nI ar) gl (nI ac) (nI j) (nI k) w = 0 := by unfold fqarcR; rw [fqat_some hj hn31, fqat_some hk hn31]; dsimp only; rw [if_neg c_19, if_pos c_27, if_pos (nI_lt hlt (by omega))]
            exact fx_iret hx hb hr hlocks hK hS dX2_arc_93 (ac + 1, 0, upd F ac (nI j), upd T ac (nI k), upd Ln ac w) (by unfold mqarc; dsimp only; rw [hR]; rfl) hP hD
          · refine lv_bipush (v := (-3)) hx hb dX2_arc_44 (by decide) ?_
            have hR : fqarcR n (nI ar) gl (nI ac) (nI j) (nI k) w = -3 := by unfold fqarcR; rw [fqat_some hj hn31, fqat_some hk hn31]; dsimp only; rw [if_neg c_19, if_pos c_27, if_neg (fun h9 => Int32.lt_irrefl (c_41 ▸ h9))]
            exact fx_iret hx hb hr hlocks hK hS dX2_arc_46 (ac, hw, F, T, Ln) (by unfold mqarc; dsimp only; rw [hR]; rfl) hP hD
        · refine lv_bipush (v := (-2)) hx hb dX2_arc_30 (by decide) ?_
          have hR : fqarcR n (nI ar) gl (nI ac) (nI j) (nI k) w = -2 := by unfold fqarcR; rw [fqat_some hj hn31, fqat_some hk hn31]; dsimp only; rw [if_neg c_19, if_neg c_27]
          exact fx_iret hx hb hr hlocks hK hS dX2_arc_32 (ac, hw, F, T, Ln) (by unfold mqarc; dsimp only; rw [hR]; rfl) hP hD
    · refine lv_if_ne (tgt := 18) hx hb dX2_arc_13 (by decide) (fun h9 => absurd h9 (by decide)) (fun _ => ?_)
      refine lv_iconst (v := (-1)) hx hb dX2_arc_16 (by decide) ?_
      have hR : fqarcR n (nI ar) gl (nI ac) (nI j) xv w = -1 := by unfold fqarcR; rw [fqat_some hj hn31, fqat_none hn31 h]
      exact fx_iret hx hb hr hlocks hK hS dX2_arc_17 (ac, hw, F, T, Ln) (by unfold mqarc; dsimp only; rw [hR]; rfl) hP hD
  · refine lv_if_eq (tgt := 16) hx hb dX2_arc_5 (by decide) (fun _ => ?_) (fun h9 => absurd h9 (by decide))
    refine lv_iconst (v := (-1)) hx hb dX2_arc_16 (by decide) ?_
    have hR : fqarcR n (nI ar) gl (nI ac) xu xv w = -1 := by unfold fqarcR; rw [fqat_none hn31 h]
    exact fx_iret hx hb hr hlocks hK hS dX2_arc_17 (ac, hw, F, T, Ln) (by unfold mqarc; dsimp only; rw [hR]; rfl) hP hD
set_option maxHeartbeats 4000000 in
set_option maxRecDepth 100000 in
theorem sq_reach (l : Launch) (dC : Nat → ClassId) (dI : Nat → Nat → Nat) (A : Nat → Prop) (cI cA cZ : ClassId) (rest : va_W) (c0 c1 c2 c3 c4 c5 c6 : Nat × va_E) (y : Nat → Nat) (n : Nat) (hn : n ≤ 40) (ar : Nat) (gl : Int32) (lo pg ca : Int32) (ac : Nat) (hw : Int32) (K F T Ln Wy Fo Tk Ne : Nat → Int32) (u v : Nat) (w : Int32) (hu : u < n) (hv : v < n) (hs : mqS n (lo, pg, ca, K)) : Met l yX2_reach (Cond.code yX2_reach cX2_reach 6 none :: wsL_law) ({ frames := 3, cells := 0, slots := 0, locals := 64 } : Room) (va_Pc [.ref (y 0), .int (nI u), .int (nI v), .int w] (fx_Pre (dC, dI) classes (fq_ty cI cA cZ) A (wM c0 c1 c2 c3 c4 c5 c6 y cI cZ n ar gl lo pg ca ac hw K F T Ln Wy Fo Tk Ne ++ rest))) (va_Qv (S := mqR) (fun r => r = mqreach n ((lo, pg, ca, K), Wy, Fo, Tk) u v w) (fx_B (dC, dI) classes (fq_ty cI cA cZ) A (fun u : mqR => wM c0 c1 c2 c3 c4 c5 c6 y cI cZ n ar gl u.1.1 u.1.2.1 u.1.2.2.1 ac hw u.1.2.2.2 F T Ln u.2.1 u.2.2.1 u.2.2.2 Ne ++ rest)) A) 0 0 A := by
  refine Met.ofW (cc := cX2_reach) (maxL := 6) (ret := none) (by decide) rfl ?_
  intro p e s m args below meth c s₁ B0 hml hv
  obtain ⟨rfl, hA, hP, hK, hD, hN⟩ := hv
  have hx := B0.exec
  have hb := B0.bytes
  have hr := B0.returns
  have hts0 := atoms_spec (ws := (Cond.code yX2_reach cX2_reach 6 none :: wsL_law)) B0.pre
  have hts := fun w (h : w ∈ wsL_law) => hts0 w (List.mem_cons_of_mem _ h)
  have hown : s.vm.findClass RX2 = some m.cls := findClass_of_methodNamed B0.named
  have hlocks := B0.notSynchronized
  have hF : CallFix p m c cX2_reach 6 s ([.ref (y 0), .int (nI u), .int (nI v), .int w] : List Value).toArray wsL_law RX2 := ⟨hx, hb, hml, hown, hts⟩
  have hS : va_S A s.heap s.heap [] := va_S.rf
  have hl := lv_entry ([.ref (y 0), .int (nI u), .int (nI v), .int w]) (n := 6) (Nat.le_of_ble_eq_true rfl)
  rw [lg_entry_eq]
  generalize (lg_sl ([.ref (y 0), .int (nI u), .int (nI v), .int w]) ++ List.replicate (6 - (lg_sl ([.ref (y 0), .int (nI u), .int (nI v), .int w])).length) Slot.unset).toArray = ls at hl ⊢
  have hl : lv_has ls 6 [(0, .ref (y 0)), (1, .int (nI u)), (2, .int (nI v)), (3, .int w)] := hl
  have hn31 : n < 2 ^ 31 := by omega
  refine lv_aload_n hx hb dX2_reach_0 rfl (lv_at hl 0 rfl) ?_
  refine va_get (D := (dC, dI)) (ci := 2) (v := .ref (y 5)) (C := RX2) (T := TX2) (N := 16) hx hb hts inlX2 hown hK hP 7 rfl rfl 12 (by decide) (hts _ km_46) (fun _ h9 => h9) rfl dX2_reach_1 ?_
  refine lv_iload_n hx hb dX2_reach_4 rfl (lv_at hl 1 rfl) ?_
  refine fx_ald hx hb hK hP 12 0 rfl rfl u rfl (by omega) (by decide) dX2_reach_5 ?_
  refine lv_i2l hx hb dX2_reach_6 rfl ?_
  refine lv_iload_n hx hb dX2_reach_7 rfl (lv_at hl 3 rfl) ?_
  refine lv_i2l hx hb dX2_reach_8 rfl ?_
  refine lv_ladd hx hb dX2_reach_9 ?_
  refine lv_lstore (lv' := [(4, .long (((Wy u).toInt64) + w.toInt64)), (0, .ref (y 0)), (1, .int (nI u)), (2, .int (nI v)), (3, .int w)]) hx hb dX2_reach_10 hl (by decide) rfl (fun ls hl => ?_)
  refine lv_aload_n hx hb dX2_reach_12 rfl (lv_at hl 1 rfl) ?_
  refine va_get (D := (dC, dI)) (ci := 2) (v := .ref (y 7)) (C := RX2) (T := TX2) (N := 16) hx hb hts inlX2 hown hK hP 7 rfl rfl 14 (by decide) (hts _ km_49) (fun _ h9 => h9) rfl dX2_reach_13 ?_
  refine lv_iload_n hx hb dX2_reach_16 rfl (lv_at hl 3 rfl) ?_
  refine fx_zald hx hb hK hP 14 2 rfl rfl v rfl (by omega) (by decide) dX2_reach_17 ?_
  refine lv_if_ne (tgt := 30) hx hb dX2_reach_18 (by decide) (fun c_18 => ?_) (fun c_18 => ?_)
  · exact fx_vret hx hb hr hlocks hK hS dX2_reach_30 ((lo, pg, ca, K), Wy, Fo, Tk) (by unfold mqreach; dsimp only; rw [if_neg c_18]) hP hD
  · refine lv_lload hx hb dX2_reach_21 (lv_at hl 0 rfl) ?_
    refine lv_ldc2 (v := 2147483647) hx hb hown (hts _ km_252) dX2_reach_23 ?_
    refine W.lcmp hx hb dX2_reach_26 ?_
    refine lv_if_le (tgt := 31) hx hb dX2_reach_27 (by decide) (fun c_27 => ?_) (fun c_27 => ?_)
    · have c_27 := fx_lle.mp c_27
      refine lv_aload_n hx hb dX2_reach_31 rfl (lv_at hl 1 rfl) ?_
      refine va_get (D := (dC, dI)) (ci := 2) (v := .ref (y 1)) (C := RX2) (T := TX2) (N := 16) hx hb hts inlX2 hown hK hP 7 rfl rfl 3 (by decide) (hts _ km_42) (fun _ h9 => h9) rfl dX2_reach_32 ?_
      refine lv_iload_n hx hb dX2_reach_35 rfl (lv_at hl 3 rfl) ?_
      refine fx_ald hx hb hK hP 8 0 rfl rfl v rfl (by omega) (by decide) dX2_reach_36 ?_
      refine lv_iconst (v := (-1)) hx hb dX2_reach_37 (by decide) ?_
      refine lv_icmp_ne (tgt := 60) hx hb dX2_reach_38 (by decide) (fun c_38 => ?_) (fun c_38 => ?_)
      · refine lv_lload hx hb dX2_reach_60 (lv_at hl 0 rfl) ?_
        refine lv_aload_n hx hb dX2_reach_62 rfl (lv_at hl 1 rfl) ?_
        refine va_get (D := (dC, dI)) (ci := 2) (v := .ref (y 1)) (C := RX2) (T := TX2) (N := 16) hx hb hts inlX2 hown hK hP 7 rfl rfl 3 (by decide) (hts _ km_42) (fun _ h9 => h9) rfl dX2_reach_63 ?_
        refine lv_iload_n hx hb dX2_reach_66 rfl (lv_at hl 3 rfl) ?_
        refine fx_ald hx hb hK hP 8 0 rfl rfl v rfl (by omega) (by decide) dX2_reach_67 ?_
        refine lv_i2l hx hb dX2_reach_68 rfl ?_
        refine W.lcmp hx hb dX2_reach_69 ?_
        refine lv_if_ge (tgt := 89) hx hb dX2_reach_70 (by decide) (fun c_70 => ?_) (fun c_70 => ?_)
        · have c_70 := fx_lge.mp c_70
          exact fx_vret hx hb hr hlocks hK hS dX2_reach_89 ((lo, pg, ca, K), Wy, Fo, Tk) (by unfold mqreach; dsimp only; rw [if_pos c_18, if_neg c_27, if_neg c_38, if_neg c_70]) hP hD
        · have c_70 := Classical.not_not.mp (fun h9 => c_70 (fx_lge.mpr h9))
          refine lv_aload_n hx hb dX2_reach_73 rfl (lv_at hl 1 rfl) ?_
          refine lv_iload_n hx hb dX2_reach_74 rfl (lv_at hl 3 rfl) ?_
          refine lv_lload hx hb dX2_reach_75 (lv_at hl 0 rfl) ?_
          refine lv_l2i hx hb dX2_reach_77 rfl ?_
          refine fx_Vi (rest := []) (sq_lower l dC dI A cI cA cZ rest c0 c1 c2 c3 c4 c5 c6 y n hn ar gl lo pg ca ac hw K F T Ln Wy Fo Tk Ne (nI v) (((Wy u).toInt64 + w.toInt64).toInt32) hs) hF (cw_RX2_80 hts ⟨Nat.le_of_ble_eq_true rfl, Nat.le_of_ble_eq_true rfl⟩) hA hS hP hK hD hN 7 2 rfl rfl rfl hl.1 rfl (Nat.le_of_ble_eq_true rfl) dX2_reach_78 ⟨Nat.le_of_ble_eq_true rfl, Nat.le_of_ble_eq_true rfl⟩ (fun r u9 H locs h hP hD hS => ?_)
          obtain ⟨lo1, pg1, ca1, K1⟩ := u9
          have hP : va_P (dC, dI) classes (wM c0 c1 c2 c3 c4 c5 c6 y cI cZ n ar gl lo1 pg1 ca1 ac hw K1 F T Ln Wy Fo Tk Ne ++ rest) H := hP
          have hD : va_D A (wM c0 c1 c2 c3 c4 c5 c6 y cI cZ n ar gl lo1 pg1 ca1 ac hw K1 F T Ln Wy Fo Tk Ne ++ rest) := hD
          refine lv_pop hx hb dX2_reach_81 rfl ?_
          refine lv_aload_n hx hb dX2_reach_82 rfl (lv_at hl 1 rfl) ?_
          refine va_get (D := (dC, dI)) (ci := 2) (v := .ref (y 6)) (C := RX2) (T := TX2) (N := 16) hx hb hts inlX2 hown hK hP 7 rfl rfl 13 (by decide) (hts _ km_47) (fun _ h9 => h9) rfl dX2_reach_83 ?_
          refine lv_iload_n hx hb dX2_reach_86 rfl (lv_at hl 3 rfl) ?_
          refine lv_iload_n hx hb dX2_reach_87 rfl (lv_at hl 2 rfl) ?_
          refine fx_ast hx hb hK hP hD hS 13 0 rfl rfl v rfl (by omega) (by decide) dX2_reach_88 (fun H locs hP hD hS => ?_)
          have hP : va_P (dC, dI) classes (wM c0 c1 c2 c3 c4 c5 c6 y cI cZ n ar gl lo1 pg1 ca1 ac hw K1 F T Ln Wy (upd Fo v (nI u)) Tk Ne ++ rest) H := hP
          have hD : va_D A (wM c0 c1 c2 c3 c4 c5 c6 y cI cZ n ar gl lo1 pg1 ca1 ac hw K1 F T Ln Wy (upd Fo v (nI u)) Tk Ne ++ rest) := hD
          exact fx_vret hx hb hr hlocks hK hS dX2_reach_89 ((lo1, pg1, ca1, K1), Wy, upd Fo v (nI u), Tk) (by unfold mqreach; dsimp only; rw [if_pos c_18, if_neg c_27, if_neg c_38, if_pos c_70, ← h]) hP hD
      · refine lv_aload_n hx hb dX2_reach_41 rfl (lv_at hl 1 rfl) ?_
        refine lv_iload_n hx hb dX2_reach_42 rfl (lv_at hl 3 rfl) ?_
        refine lv_lload hx hb dX2_reach_43 (lv_at hl 0 rfl) ?_
        refine lv_l2i hx hb dX2_reach_45 rfl ?_
        refine fx_Vi (rest := []) (sq_push l dC dI A cI cA cZ rest c0 c1 c2 c3 c4 c5 c6 y n hn ar gl lo pg ca ac hw K F T Ln Wy Fo Tk Ne (nI v) (((Wy u).toInt64 + w.toInt64).toInt32)) hF (cw_RX2_77 hts ⟨Nat.le_of_ble_eq_true rfl, Nat.le_of_ble_eq_true rfl⟩) hA hS hP hK hD hN 7 2 rfl rfl rfl hl.1 rfl (Nat.le_of_ble_eq_true rfl) dX2_reach_46 ⟨Nat.le_of_ble_eq_true rfl, Nat.le_of_ble_eq_true rfl⟩ (fun r u9 H locs h hP hD hS => ?_)
        obtain ⟨lo1, pg1, ca1, K1⟩ := u9
        have hP : va_P (dC, dI) classes (wM c0 c1 c2 c3 c4 c5 c6 y cI cZ n ar gl lo1 pg1 ca1 ac hw K1 F T Ln Wy Fo Tk Ne ++ rest) H := hP
        have hD : va_D A (wM c0 c1 c2 c3 c4 c5 c6 y cI cZ n ar gl lo1 pg1 ca1 ac hw K1 F T Ln Wy Fo Tk Ne ++ rest) := hD
        refine lv_pop hx hb dX2_reach_49 rfl ?_
        refine lv_aload_n hx hb dX2_reach_50 rfl (lv_at hl 1 rfl) ?_
        refine va_get (D := (dC, dI)) (ci := 2) (v := .ref (y 6)) (C := RX2) (T := TX2) (N := 16) hx hb hts inlX2 hown hK hP 7 rfl rfl 13 (by decide) (hts _ km_47) (fun _ h9 => h9) rfl dX2_reach_51 ?_
        refine lv_iload_n hx hb dX2_reach_54 rfl (lv_at hl 3 rfl) ?_
        refine lv_iload_n hx hb dX2_reach_55 rfl (lv_at hl 2 rfl) ?_
        refine fx_ast hx hb hK hP hD hS 13 0 rfl rfl v rfl (by omega) (by decide) dX2_reach_56 (fun H locs hP hD hS => ?_)
        have hP : va_P (dC, dI) classes (wM c0 c1 c2 c3 c4 c5 c6 y cI cZ n ar gl lo1 pg1 ca1 ac hw K1 F T Ln Wy (upd Fo v (nI u)) Tk Ne ++ rest) H := hP
        have hD : va_D A (wM c0 c1 c2 c3 c4 c5 c6 y cI cZ n ar gl lo1 pg1 ca1 ac hw K1 F T Ln Wy (upd Fo v (nI u)) Tk Ne ++ rest) := hD
        refine lv_goto (tgt := 89) hx hb dX2_reach_57 (by decide) ?_
        exact fx_vret hx hb hr hlocks hK hS dX2_reach_89 ((lo1, pg1, ca1, K1), Wy, upd Fo v (nI u), Tk) (by unfold mqreach; dsimp only; rw [if_pos c_18, if_neg c_27, if_pos c_38, ← h]) hP hD
    · have c_27 := Classical.not_not.mp (fun h9 => c_27 (fx_lle.mpr h9))
      exact fx_vret hx hb hr hlocks hK hS dX2_reach_30 ((lo, pg, ca, K), Wy, Fo, Tk) (by unfold mqreach; dsimp only; rw [if_pos c_18, if_pos c_27]) hP hD
end
section
set_option maxHeartbeats 4000000 in
set_option maxRecDepth 100000 in
theorem sq_spread (l : Launch) (dC : Nat → ClassId) (dI : Nat → Nat → Nat) (A : Nat → Prop) (cI cA cZ : ClassId) (rest : va_W) (c0 c1 c2 c3 c4 c5 c6 : Nat × va_E) (y : Nat → Nat) (n : Nat) (hn : n ≤ 40) (ar : Nat) (gl : Int32) (lo pg ca : Int32) (ac : Nat) (hw : Int32) (K F T Ln Wy Fo Tk Ne : Nat → Int32) (j : Nat) (hj : j < n) (hac : ac ≤ 300) (hnet : mqnet n ac F T) : Met l yX2_spread (Cond.code yX2_spread cX2_spread 4 none :: wsL_law) ({ frames := 0, cells := 0, slots := 0, locals := 0 } : Room) (va_Pc [.ref (y 0), .int (nI j)] (fx_Pre (dC, dI) classes (fq_ty cI cA cZ) A (wM c0 c1 c2 c3 c4 c5 c6 y cI cZ n ar gl lo pg ca ac hw K F T Ln Wy Fo Tk Ne ++ rest))) (va_Qv (S := (Nat → Int32)) (fun u => u = mqspread n F T ac j Ne) (fx_B (dC, dI) classes (fq_ty cI cA cZ) A (fun u => wM c0 c1 c2 c3 c4 c5 c6 y cI cZ n ar gl lo pg ca ac hw K F T Ln Wy Fo Tk u ++ rest)) A) 0 0 A := by
  refine Met.ofW (cc := cX2_spread) (maxL := 4) (ret := none) (by decide) rfl ?_
  intro p e s m args below meth c s₁ B0 hml hv
  obtain ⟨rfl, hA, hP, hK, hD, hN⟩ := hv
  have hx := B0.exec
  have hb := B0.bytes
  have hr := B0.returns
  have hts0 := atoms_spec (ws := (Cond.code yX2_spread cX2_spread 4 none :: wsL_law)) B0.pre
  have hts := fun w (h : w ∈ wsL_law) => hts0 w (List.mem_cons_of_mem _ h)
  have hown : s.vm.findClass RX2 = some m.cls := findClass_of_methodNamed B0.named
  have hlocks := B0.notSynchronized
  have hF : CallFix p m c cX2_spread 4 s ([.ref (y 0), .int (nI j)] : List Value).toArray wsL_law RX2 := ⟨hx, hb, hml, hown, hts⟩
  have hS : va_S A s.heap s.heap [] := va_S.rf
  have hl := lv_entry ([.ref (y 0), .int (nI j)]) (n := 4) (Nat.le_of_ble_eq_true rfl)
  rw [lg_entry_eq]
  generalize (lg_sl ([.ref (y 0), .int (nI j)]) ++ List.replicate (4 - (lg_sl ([.ref (y 0), .int (nI j)])).length) Slot.unset).toArray = ls at hl ⊢
  have hl : lv_has ls 4 [(0, .ref (y 0)), (1, .int (nI j))] := hl
  have hn31 : n < 2 ^ 31 := by omega
  have K32 : ∀ (d i : Nat) (Ne' : Nat → Int32) (H : Heap) (locs : List Loc) (ls : Array Slot), d + i = n → (mqnear F T ac d Ne' = mqspread n F T ac j Ne) → va_P (dC, dI) classes (wM c0 c1 c2 c3 c4 c5 c6 y cI cZ n ar gl lo pg ca ac hw K F T Ln Wy Fo Tk Ne' ++ rest) H → va_D A (wM c0 c1 c2 c3 c4 c5 c6 y cI cZ n ar gl lo pg ca ac hw K F T Ln Wy Fo Tk Ne' ++ rest) → va_S A s.heap H locs → lv_has ls 4 [(0, .ref (y 0)), (1, .int (nI j)), (2, .int (nI i))] → W p l e (headSpec (Cond.code yX2_spread cX2_spread 4 none :: wsL_law) ({ frames := 0, cells := 0, slots := 0, locals := 0 } : Room)).room s m ([.ref (y 0), .int (nI j)] : List Value).toArray below meth c H locs 0 0 (MQ below (va_Qv (S := (Nat → Int32)) (fun u => u = mqspread n F T ac j Ne) (fx_B (dC, dI) classes (fq_ty cI cA cZ) A (fun u => wM c0 c1 c2 c3 c4 c5 c6 y cI cZ n ar gl lo pg ca ac hw K F T Ln Wy Fo Tk u ++ rest)) A) ([.ref (y 0), .int (nI j)] : List Value).toArray s 0 0 A) (F0 m 32 ls []) := by
    intro d
    induction d with
    | zero =>
      intro i Ne' H locs ls hdi hq hP hD hS hl
      have e0 : i = n := by omega
      refine lv_iload_n hx hb dX2_spread_32 rfl (lv_at hl 2 rfl) ?_
      refine lv_aload_n hx hb dX2_spread_33 rfl (lv_at hl 0 rfl) ?_
      refine va_get (D := (dC, dI)) (ci := 2) (v := .int (nI n)) (C := RX2) (T := TX2) (N := 16) hx hb hts inlX2 hown hK hP 7 rfl rfl 0 (by decide) (hts _ km_51) (fun _ h9 => h9) rfl dX2_spread_34 ?_
      refine lv_icmp_ge (tgt := 106) hx hb dX2_spread_37 (by decide) (fun c_37 => ?_) (fun c_37 => ?_)
      · exact fx_vret hx hb hr hlocks hK hS dX2_spread_106 Ne' (hq) hP hD
      · exact absurd (nI_le (by omega) (by omega)) c_37
    | succ d ih =>
      intro i Ne' H locs ls hdi hq hP hD hS hl
      have hi : i < n := by omega
      have K42 : ∀ (d2 k : Nat) (Ne'' : Nat → Int32) (H : Heap) (locs : List Loc) (ls : Array Slot), d2 + k = ac → (mqnear1 F T d2 k Ne'' = mqnear1 F T ac 0 Ne') → va_P (dC, dI) classes (wM c0 c1 c2 c3 c4 c5 c6 y cI cZ n ar gl lo pg ca ac hw K F T Ln Wy Fo Tk Ne'' ++ rest) H → va_D A (wM c0 c1 c2 c3 c4 c5 c6 y cI cZ n ar gl lo pg ca ac hw K F T Ln Wy Fo Tk Ne'' ++ rest) → va_S A s.heap H locs → lv_has ls 4 [(0, .ref (y 0)), (1, .int (nI j)), (2, .int (nI i)), (3, .int (nI k))] → W p l e (headSpec (Cond.code yX2_spread cX2_spread 4 none :: wsL_law) ({ frames := 0, cells := 0, slots := 0, locals := 0 } : Room)).room s m ([.ref (y 0), .int (nI j)] : List Value).toArray below meth c H locs 0 0 (MQ below (va_Qv (S := (Nat → Int32)) (fun u => u = mqspread n F T ac j Ne) (fx_B (dC, dI) classes (fq_ty cI cA cZ) A (fun u => wM c0 c1 c2 c3 c4 c5 c6 y cI cZ n ar gl lo pg ca ac hw K F T Ln Wy Fo Tk u ++ rest)) A) ([.ref (y 0), .int (nI j)] : List Value).toArray s 0 0 A) (F0 m 42 ls []) := by
        intro d2
        induction d2 with
        | zero =>
          intro k Ne'' H locs ls hdk hq2 hP hD hS hl
          have e0 : k = ac := by omega
          refine lv_iload_n hx hb dX2_spread_42 rfl (lv_at hl 3 rfl) ?_
          refine lv_aload_n hx hb dX2_spread_43 rfl (lv_at hl 0 rfl) ?_
          refine va_get (D := (dC, dI)) (ci := 2) (v := .int (nI ac)) (C := RX2) (T := TX2) (N := 16) hx hb hts inlX2 hown hK hP 7 rfl rfl 7 (by decide) (hts _ km_210) (fun _ h9 => h9) rfl dX2_spread_44 ?_
          refine lv_icmp_ge (tgt := 100) hx hb dX2_spread_47 (by decide) (fun c_47 => ?_) (fun c_47 => ?_)
          · refine lv_iinc (v := nI (i + 1)) (lv' := [(2, .int (nI (i + 1))), (0, .ref (y 0)), (1, .int (nI j)), (3, .int (nI k))]) hx hb dX2_spread_100 hl (k := 2) rfl (nI_1 i) (by decide) rfl (fun ls hl => ?_)
            refine lv_goto (tgt := 32) hx hb dX2_spread_103 (by decide) ?_
            exact ih (i + 1) Ne'' H locs ls (by omega) (by rw [← hq, mqnear_s, ← hq2]; rfl) hP hD hS (lv_sub hl [1, 2, 0] rfl)
          · exact absurd (nI_le (by omega) (by omega)) c_47
        | succ d2 ih2 =>
          intro k Ne'' H locs ls hdk hq2 hP hD hS hl
          have hk : k < ac := by omega
          obtain ⟨⟨u0, hu0, eF⟩, v0, hv0, eT⟩ := hnet k hk
          refine lv_iload_n hx hb dX2_spread_42 rfl (lv_at hl 3 rfl) ?_
          refine lv_aload_n hx hb dX2_spread_43 rfl (lv_at hl 0 rfl) ?_
          refine va_get (D := (dC, dI)) (ci := 2) (v := .int (nI ac)) (C := RX2) (T := TX2) (N := 16) hx hb hts inlX2 hown hK hP 7 rfl rfl 7 (by decide) (hts _ km_210) (fun _ h9 => h9) rfl dX2_spread_44 ?_
          refine lv_icmp_ge (tgt := 100) hx hb dX2_spread_47 (by decide) (fun c_47 => ?_) (fun c_47 => ?_)
          · exact absurd c_47 (nI_ge hk (by omega))
          · refine lv_aload_n hx hb dX2_spread_50 rfl (lv_at hl 0 rfl) ?_
            refine va_get (D := (dC, dI)) (ci := 2) (v := .ref (y 8)) (C := RX2) (T := TX2) (N := 16) hx hb hts inlX2 hown hK hP 7 rfl rfl 15 (by decide) (hts _ km_50) (fun _ h9 => h9) rfl dX2_spread_51 ?_
            refine lv_aload_n hx hb dX2_spread_54 rfl (lv_at hl 0 rfl) ?_
            refine va_get (D := (dC, dI)) (ci := 2) (v := .ref (y 3)) (C := RX2) (T := TX2) (N := 16) hx hb hts inlX2 hown hK hP 7 rfl rfl 9 (by decide) (hts _ km_44) (fun _ h9 => h9) rfl dX2_spread_55 ?_
            refine lv_iload_n hx hb dX2_spread_58 rfl (lv_at hl 3 rfl) ?_
            refine fx_ald hx hb hK hP 10 0 rfl rfl k rfl (by omega) (by decide) dX2_spread_59 ?_
            refine lv_aload_n hx hb dX2_spread_60 rfl (lv_at hl 0 rfl) ?_
            refine va_get (D := (dC, dI)) (ci := 2) (v := .ref (y 8)) (C := RX2) (T := TX2) (N := 16) hx hb hts inlX2 hown hK hP 7 rfl rfl 15 (by decide) (hts _ km_50) (fun _ h9 => h9) rfl dX2_spread_61 ?_
            refine lv_aload_n hx hb dX2_spread_64 rfl (lv_at hl 0 rfl) ?_
            refine va_get (D := (dC, dI)) (ci := 2) (v := .ref (y 3)) (C := RX2) (T := TX2) (N := 16) hx hb hts inlX2 hown hK hP 7 rfl rfl 9 (by decide) (hts _ km_44) (fun _ h9 => h9) rfl dX2_spread_65 ?_
            refine lv_iload_n hx hb dX2_spread_68 rfl (lv_at hl 3 rfl) ?_
            refine fx_ald hx hb hK hP 10 0 rfl rfl k rfl (by omega) (by decide) dX2_spread_69 ?_
            refine fx_zald hx hb hK hP 15 2 rfl rfl v0 eT (by omega) (by decide) dX2_spread_70 ?_
            refine lv_if_ne (tgt := 88) hx hb dX2_spread_71 (by decide) (fun c_71 => ?_) (fun c_71 => ?_)
            · refine lv_iconst (v := 1) hx hb dX2_spread_88 (by decide) ?_
              refine lv_goto (tgt := 93) hx hb dX2_spread_89 (by decide) ?_
              refine fx_zast hx hb hK hP hD hS 15 2 rfl rfl v0 eT (by omega) (by decide) rfl dX2_spread_93 (fun H locs hP hD hS => ?_)
              have hP : va_P (dC, dI) classes (wM c0 c1 c2 c3 c4 c5 c6 y cI cZ n ar gl lo pg ca ac hw K F T Ln Wy Fo Tk (upd Ne'' v0 1) ++ rest) H := hP
              have hD : va_D A (wM c0 c1 c2 c3 c4 c5 c6 y cI cZ n ar gl lo pg ca ac hw K F T Ln Wy Fo Tk (upd Ne'' v0 1) ++ rest) := hD
              refine lv_iinc (v := nI (k + 1)) (lv' := [(3, .int (nI (k + 1))), (0, .ref (y 0)), (1, .int (nI j)), (2, .int (nI i))]) hx hb dX2_spread_94 hl (k := 3) rfl (nI_1 k) (by decide) rfl (fun ls hl => ?_)
              refine lv_goto (tgt := 42) hx hb dX2_spread_97 (by decide) ?_
              exact ih2 (k + 1) (upd Ne'' v0 1) H locs ls (by omega) (by rw [← hq2, mqnear1_s, eT, eF, fqn_nI (by omega), fqn_nI (by omega), if_neg (fun h => c_71 h.1)]) hP hD hS (lv_sub hl [1, 2, 3, 0] rfl)
            · refine lv_aload_n hx hb dX2_spread_74 rfl (lv_at hl 0 rfl) ?_
              refine va_get (D := (dC, dI)) (ci := 2) (v := .ref (y 8)) (C := RX2) (T := TX2) (N := 16) hx hb hts inlX2 hown hK hP 7 rfl rfl 15 (by decide) (hts _ km_50) (fun _ h9 => h9) rfl dX2_spread_75 ?_
              refine lv_aload_n hx hb dX2_spread_78 rfl (lv_at hl 0 rfl) ?_
              refine va_get (D := (dC, dI)) (ci := 2) (v := .ref (y 2)) (C := RX2) (T := TX2) (N := 16) hx hb hts inlX2 hown hK hP 7 rfl rfl 8 (by decide) (hts _ km_43) (fun _ h9 => h9) rfl dX2_spread_79 ?_
              refine lv_iload_n hx hb dX2_spread_82 rfl (lv_at hl 3 rfl) ?_
              refine fx_ald hx hb hK hP 9 0 rfl rfl k rfl (by omega) (by decide) dX2_spread_83 ?_
              refine fx_zald hx hb hK hP 15 2 rfl rfl u0 eF (by omega) (by decide) dX2_spread_84 ?_
              refine lv_if_eq (tgt := 92) hx hb dX2_spread_85 (by decide) (fun c_85 => ?_) (fun c_85 => ?_)
              · refine lv_iconst (v := 0) hx hb dX2_spread_92 (by decide) ?_
                refine fx_zast hx hb hK hP hD hS 15 2 rfl rfl v0 eT (by omega) (by decide) rfl dX2_spread_93 (fun H locs hP hD hS => ?_)
                have hP : va_P (dC, dI) classes (wM c0 c1 c2 c3 c4 c5 c6 y cI cZ n ar gl lo pg ca ac hw K F T Ln Wy Fo Tk (upd Ne'' v0 0) ++ rest) H := hP
                have hD : va_D A (wM c0 c1 c2 c3 c4 c5 c6 y cI cZ n ar gl lo pg ca ac hw K F T Ln Wy Fo Tk (upd Ne'' v0 0) ++ rest) := hD
                refine lv_iinc (v := nI (k + 1)) (lv' := [(3, .int (nI (k + 1))), (0, .ref (y 0)), (1, .int (nI j)), (2, .int (nI i))]) hx hb dX2_spread_94 hl (k := 3) rfl (nI_1 k) (by decide) rfl (fun ls hl => ?_)
                refine lv_goto (tgt := 42) hx hb dX2_spread_97 (by decide) ?_
                exact ih2 (k + 1) (upd Ne'' v0 0) H locs ls (by omega) (by rw [← hq2, mqnear1_s, eT, eF, fqn_nI (by omega), fqn_nI (by omega), if_pos ⟨c_71, c_85⟩]) hP hD hS (lv_sub hl [1, 2, 3, 0] rfl)
              · refine lv_iconst (v := 1) hx hb dX2_spread_88 (by decide) ?_
                refine lv_goto (tgt := 93) hx hb dX2_spread_89 (by decide) ?_
                refine fx_zast hx hb hK hP hD hS 15 2 rfl rfl v0 eT (by omega) (by decide) rfl dX2_spread_93 (fun H locs hP hD hS => ?_)
                have hP : va_P (dC, dI) classes (wM c0 c1 c2 c3 c4 c5 c6 y cI cZ n ar gl lo pg ca ac hw K F T Ln Wy Fo Tk (upd Ne'' v0 1) ++ rest) H := hP
                have hD : va_D A (wM c0 c1 c2 c3 c4 c5 c6 y cI cZ n ar gl lo pg ca ac hw K F T Ln Wy Fo Tk (upd Ne'' v0 1) ++ rest) := hD
                refine lv_iinc (v := nI (k + 1)) (lv' := [(3, .int (nI (k + 1))), (0, .ref (y 0)), (1, .int (nI j)), (2, .int (nI i))]) hx hb dX2_spread_94 hl (k := 3) rfl (nI_1 k) (by decide) rfl (fun ls hl => ?_)
                refine lv_goto (tgt := 42) hx hb dX2_spread_97 (by decide) ?_
                exact ih2 (k + 1) (upd Ne'' v0 1) H locs ls (by omega) (by rw [← hq2, mqnear1_s, eT, eF, fqn_nI (by omega), fqn_nI (by omega), if_neg (fun h => c_85 h.2)]) hP hD hS (lv_sub hl [1, 2, 3, 0] rfl)
      refine lv_iload_n hx hb dX2_spread_32 rfl (lv_at hl 2 rfl) ?_
      refine lv_aload_n hx hb dX2_spread_33 rfl (lv_at hl 0 rfl) ?_
      refine va_get (D := (dC, dI)) (ci := 2) (v := .int (nI n)) (C := RX2) (T := TX2) (N := 16) hx hb hts inlX2 hown hK hP 7 rfl rfl 0 (by decide) (hts _ km_51) (fun _ h9 => h9) rfl dX2_spread_34 ?_
      refine lv_icmp_ge (tgt := 106) hx hb dX2_spread_37 (by decide) (fun c_37 => ?_) (fun c_37 => ?_)
      · exact absurd c_37 (nI_ge hi hn31)
      · refine lv_iconst (v := 0) hx hb dX2_spread_40 (by decide) ?_
        refine lv_istore_n (lv' := [(3, .int 0), (0, .ref (y 0)), (1, .int (nI j)), (2, .int (nI i))]) hx hb dX2_spread_41 rfl hl (by decide) rfl (fun ls hl => ?_)
        exact K42 ac 0 Ne' H locs ls rfl rfl hP hD hS (lv_sub hl [1, 2, 3, 0] rfl)
  have K2 : ∀ (d i : Nat) (H : Heap) (locs : List Loc) (ls : Array Slot), d + i = 40 → va_P (dC, dI) classes (wM c0 c1 c2 c3 c4 c5 c6 y cI cZ n ar gl lo pg ca ac hw K F T Ln Wy Fo Tk (fun k => if k < i then (if k = j then 1 else 0) else Ne k) ++ rest) H → va_D A (wM c0 c1 c2 c3 c4 c5 c6 y cI cZ n ar gl lo pg ca ac hw K F T Ln Wy Fo Tk (fun k => if k < i then (if k = j then 1 else 0) else Ne k) ++ rest) → va_S A s.heap H locs → lv_has ls 4 [(0, .ref (y 0)), (1, .int (nI j)), (2, .int (nI i))] → W p l e (headSpec (Cond.code yX2_spread cX2_spread 4 none :: wsL_law) ({ frames := 0, cells := 0, slots := 0, locals := 0 } : Room)).room s m ([.ref (y 0), .int (nI j)] : List Value).toArray below meth c H locs 0 0 (MQ below (va_Qv (S := (Nat → Int32)) (fun u => u = mqspread n F T ac j Ne) (fx_B (dC, dI) classes (fq_ty cI cA cZ) A (fun u => wM c0 c1 c2 c3 c4 c5 c6 y cI cZ n ar gl lo pg ca ac hw K F T Ln Wy Fo Tk u ++ rest)) A) ([.ref (y 0), .int (nI j)] : List Value).toArray s 0 0 A) (F0 m 2 ls []) := by
    intro d
    induction d with
    | zero =>
      intro i  H locs ls hdi  hP hD hS hl
      have e0 : i = 40 := by omega
      subst e0
      refine lv_iload_n hx hb dX2_spread_2 rfl (lv_at hl 2 rfl) ?_
      refine lv_bipush (v := 40) hx hb dX2_spread_3 (by decide) ?_
      refine lv_icmp_ge (tgt := 30) hx hb dX2_spread_5 (by decide) (fun c_5 => ?_) (fun c_5 => ?_)
      · refine lv_iconst (v := 0) hx hb dX2_spread_30 (by decide) ?_
        refine lv_istore_n (lv' := [(2, .int 0), (0, .ref (y 0)), (1, .int (nI j))]) hx hb dX2_spread_31 rfl hl (by decide) rfl (fun ls hl => ?_)
        exact K32 n 0 (mqstart j Ne) H locs ls rfl rfl hP hD hS (lv_sub hl [1, 2, 0] rfl)
      · exact absurd (Int32.le_refl _) c_5
    | succ d ih =>
      intro i  H locs ls hdi  hP hD hS hl
      have hi : i < 40 := by omega
      refine lv_iload_n hx hb dX2_spread_2 rfl (lv_at hl 2 rfl) ?_
      refine lv_bipush (v := 40) hx hb dX2_spread_3 (by decide) ?_
      refine lv_icmp_ge (tgt := 30) hx hb dX2_spread_5 (by decide) (fun c_5 => ?_) (fun c_5 => ?_)
      · exact absurd (show nI 40 ≤ nI i from c_5) (nI_ge hi (by decide))
      · refine lv_aload_n hx hb dX2_spread_8 rfl (lv_at hl 0 rfl) ?_
        refine va_get (D := (dC, dI)) (ci := 2) (v := .ref (y 8)) (C := RX2) (T := TX2) (N := 16) hx hb hts inlX2 hown hK hP 7 rfl rfl 15 (by decide) (hts _ km_50) (fun _ h9 => h9) rfl dX2_spread_9 ?_
        refine lv_iload_n hx hb dX2_spread_12 rfl (lv_at hl 2 rfl) ?_
        refine lv_iload_n hx hb dX2_spread_13 rfl (lv_at hl 2 rfl) ?_
        refine lv_iload_n hx hb dX2_spread_14 rfl (lv_at hl 1 rfl) ?_
        refine lv_icmp_ne (tgt := 22) hx hb dX2_spread_15 (by decide) (fun c_15 => ?_) (fun c_15 => ?_)
        · refine lv_iconst (v := 0) hx hb dX2_spread_22 (by decide) ?_
          refine fx_zast hx hb hK hP hD hS 15 2 rfl rfl i rfl (by omega) (by decide) rfl dX2_spread_23 (fun H locs hP hD hS => ?_)
          have hP : va_P (dC, dI) classes (wM c0 c1 c2 c3 c4 c5 c6 y cI cZ n ar gl lo pg ca ac hw K F T Ln Wy Fo Tk (upd (fun k => if k < i then (if k = j then 1 else 0) else Ne k) i 0) ++ rest) H := hP
          have hD : va_D A (wM c0 c1 c2 c3 c4 c5 c6 y cI cZ n ar gl lo pg ca ac hw K F T Ln Wy Fo Tk (upd (fun k => if k < i then (if k = j then 1 else 0) else Ne k) i 0) ++ rest) := hD
          refine lv_iinc (v := nI (i + 1)) (lv' := [(2, .int (nI (i + 1))), (0, .ref (y 0)), (1, .int (nI j))]) hx hb dX2_spread_24 hl (k := 2) rfl (nI_1 i) (by decide) rfl (fun ls hl => ?_)
          refine lv_goto (tgt := 2) hx hb dX2_spread_27 (by decide) ?_
          rw [mq_starts ((if_neg (fun h => c_15 (by rw [h]))).symm)] at hP hD
          exact ih (i + 1) H locs ls (by omega) hP hD hS (lv_sub hl [1, 2, 0] rfl)
        · refine lv_iconst (v := 1) hx hb dX2_spread_18 (by decide) ?_
          refine lv_goto (tgt := 23) hx hb dX2_spread_19 (by decide) ?_
          refine fx_zast hx hb hK hP hD hS 15 2 rfl rfl i rfl (by omega) (by decide) rfl dX2_spread_23 (fun H locs hP hD hS => ?_)
          have hP : va_P (dC, dI) classes (wM c0 c1 c2 c3 c4 c5 c6 y cI cZ n ar gl lo pg ca ac hw K F T Ln Wy Fo Tk (upd (fun k => if k < i then (if k = j then 1 else 0) else Ne k) i 1) ++ rest) H := hP
          have hD : va_D A (wM c0 c1 c2 c3 c4 c5 c6 y cI cZ n ar gl lo pg ca ac hw K F T Ln Wy Fo Tk (upd (fun k => if k < i then (if k = j then 1 else 0) else Ne k) i 1) ++ rest) := hD
          refine lv_iinc (v := nI (i + 1)) (lv' := [(2, .int (nI (i + 1))), (0, .ref (y 0)), (1, .int (nI j))]) hx hb dX2_spread_24 hl (k := 2) rfl (nI_1 i) (by decide) rfl (fun ls hl => ?_)
          refine lv_goto (tgt := 2) hx hb dX2_spread_27 (by decide) ?_
          rw [mq_starts ((if_pos ((nI_eq (by omega) (by omega)).mp c_15)).symm)] at hP hD
          exact ih (i + 1) H locs ls (by omega) hP hD hS (lv_sub hl [1, 2, 0] rfl)
  refine lv_iconst (v := 0) hx hb dX2_spread_0 (by decide) ?_
  refine lv_istore_n (lv' := [(2, .int 0), (0, .ref (y 0)), (1, .int (nI j))]) hx hb dX2_spread_1 rfl hl (by decide) rfl (fun ls hl => ?_)
  exact K2 40 0 s.heap [] ls rfl (by rw [mq_start0]; exact hP) (by rw [mq_start0]; exact hD) hS (lv_sub hl [1, 2, 0] rfl)
set_option maxHeartbeats 4000000 in
set_option maxRecDepth 100000 in
theorem sq_distance (l : Launch) (dC : Nat → ClassId) (dI : Nat → Nat → Nat) (A : Nat → Prop) (cI cA cZ : ClassId) (rest : va_W) (c0 c1 c2 c3 c4 c5 c6 : Nat × va_E) (y : Nat → Nat) (n : Nat) (hn : n ≤ 40) (ar : Nat) (gl : Int32) (lo pg ca : Int32) (ac : Nat) (hw : Int32) (K F T Ln Wy Fo Tk Ne : Nat → Int32) (x : Int32)  : Met l yX2_distance (Cond.code yX2_distance cX2_distance 2 (some .int) :: wsL_law) ({ frames := 1, cells := 0, slots := 0, locals := 21 } : Room) (va_Pc [.ref (y 0), .int x] (fx_Pre (dC, dI) classes (fq_ty cI cA cZ) A (wM c0 c1 c2 c3 c4 c5 c6 y cI cZ n ar gl lo pg ca ac hw K F T Ln Wy Fo Tk Ne ++ rest))) (vp_Si (fun r => r = mqdist n hw Tk Wy x)) 0 0 (fun _ => False) := by
  refine Met.ofW (cc := cX2_distance) (maxL := 2) (ret := (some .int)) (by decide) rfl ?_
  intro p e s m args below meth c s₁ B0 hml hv
  obtain ⟨rfl, hA, hP, hK, hD, hN⟩ := hv
  have hx := B0.exec
  have hb := B0.bytes
  have hr := B0.returns
  have hts0 := atoms_spec (ws := (Cond.code yX2_distance cX2_distance 2 (some .int) :: wsL_law)) B0.pre
  have hts := fun w (h : w ∈ wsL_law) => hts0 w (List.mem_cons_of_mem _ h)
  have hown : s.vm.findClass RX2 = some m.cls := findClass_of_methodNamed B0.named
  have hlocks := B0.notSynchronized
  have hF : CallFix p m c cX2_distance 2 s ([.ref (y 0), .int x] : List Value).toArray wsL_law RX2 := ⟨hx, hb, hml, hown, hts⟩
  have hS : va_S A s.heap s.heap [] := va_S.rf
  have hl := lv_entry ([.ref (y 0), .int x]) (n := 2) (Nat.le_of_ble_eq_true rfl)
  rw [lg_entry_eq]
  generalize (lg_sl ([.ref (y 0), .int x]) ++ List.replicate (2 - (lg_sl ([.ref (y 0), .int x])).length) Slot.unset).toArray = ls at hl ⊢
  have hl : lv_has ls 2 [(0, .ref (y 0)), (1, .int x)] := hl
  have hn31 : n < 2 ^ 31 := by omega
  refine lv_aload_n hx hb dX2_distance_0 rfl (lv_at hl 0 rfl) ?_
  refine va_get (D := (dC, dI)) (ci := 2) (v := .int hw) (C := RX2) (T := TX2) (N := 16) hx hb hts inlX2 hown hK hP 7 rfl rfl 11 (by decide) (hts _ km_211) (fun _ h9 => h9) rfl dX2_distance_1 ?_
  refine lv_if_eq (tgt := 33) hx hb dX2_distance_4 (by decide) (fun c_4 => ?_) (fun c_4 => ?_)
  · refine lv_iconst (v := (-1)) hx hb dX2_distance_33 (by decide) ?_
    exact fx_sret hx hb hr hlocks dX2_distance_34 (by unfold mqdist; rw [if_pos c_4])
  · refine lv_aload_n hx hb dX2_distance_7 rfl (lv_at hl 0 rfl) ?_
    refine lv_iload_n hx hb dX2_distance_8 rfl (lv_at hl 1 rfl) ?_
    refine fx_Vs (rest := []) (sq_isItem l dC dI A cI cA cZ rest c0 c1 c2 c3 c4 c5 c6 y n hn ar gl lo pg ca ac hw K F T Ln Wy Fo Tk Ne x) hF (cw_RX2_51 hts ⟨Nat.le_of_ble_eq_true rfl, Nat.le_of_ble_eq_true rfl⟩) hA hS hP hK hD hN 7 2 rfl rfl rfl hl.1 rfl (Nat.le_of_ble_eq_true rfl) dX2_distance_9 ⟨Nat.le_of_ble_eq_true rfl, Nat.le_of_ble_eq_true rfl⟩ (fun r h => ?_)
    rcases h with ⟨rfl, ⟨j, hj, rfl⟩⟩ | ⟨rfl, h⟩
    · refine lv_if_eq (tgt := 33) hx hb dX2_distance_12 (by decide) (fun h9 => absurd h9 (by decide)) (fun _ => ?_)
      refine lv_aload_n hx hb dX2_distance_15 rfl (lv_at hl 0 rfl) ?_
      refine va_get (D := (dC, dI)) (ci := 2) (v := .ref (y 7)) (C := RX2) (T := TX2) (N := 16) hx hb hts inlX2 hown hK hP 7 rfl rfl 14 (by decide) (hts _ km_49) (fun _ h9 => h9) rfl dX2_distance_16 ?_
      refine lv_iload_n hx hb dX2_distance_19 rfl (lv_at hl 1 rfl) ?_
      refine fx_zald hx hb hK hP 14 2 rfl rfl j rfl (by omega) (by decide) dX2_distance_20 ?_
      refine lv_if_eq (tgt := 33) hx hb dX2_distance_21 (by decide) (fun c_21 => ?_) (fun c_21 => ?_)
      · refine lv_iconst (v := (-1)) hx hb dX2_distance_33 (by decide) ?_
        exact fx_sret hx hb hr hlocks dX2_distance_34 (by unfold mqdist; rw [if_neg c_4, fqat_some hj hn31]; dsimp only; rw [if_pos c_21])
      · refine lv_aload_n hx hb dX2_distance_24 rfl (lv_at hl 0 rfl) ?_
        refine va_get (D := (dC, dI)) (ci := 2) (v := .ref (y 5)) (C := RX2) (T := TX2) (N := 16) hx hb hts inlX2 hown hK hP 7 rfl rfl 12 (by decide) (hts _ km_46) (fun _ h9 => h9) rfl dX2_distance_25 ?_
        refine lv_iload_n hx hb dX2_distance_28 rfl (lv_at hl 1 rfl) ?_
        refine fx_ald hx hb hK hP 12 0 rfl rfl j rfl (by omega) (by decide) dX2_distance_29 ?_
        refine lv_goto (tgt := 34) hx hb dX2_distance_30 (by decide) ?_
        exact fx_sret hx hb hr hlocks dX2_distance_34 (by unfold mqdist; rw [if_neg c_4, fqat_some hj hn31]; dsimp only; rw [if_neg c_21])
    · refine lv_if_eq (tgt := 33) hx hb dX2_distance_12 (by decide) (fun _ => ?_) (fun h9 => absurd h9 (by decide))
      refine lv_iconst (v := (-1)) hx hb dX2_distance_33 (by decide) ?_
      exact fx_sret hx hb hr hlocks dX2_distance_34 (by unfold mqdist; rw [if_neg c_4, fqat_none hn31 h])
set_option maxHeartbeats 4000000 in
set_option maxRecDepth 100000 in
theorem sq_before (l : Launch) (dC : Nat → ClassId) (dI : Nat → Nat → Nat) (A : Nat → Prop) (cI cA cZ : ClassId) (rest : va_W) (c0 c1 c2 c3 c4 c5 c6 : Nat × va_E) (y : Nat → Nat) (n : Nat) (hn : n ≤ 40) (ar : Nat) (gl : Int32) (lo pg ca : Int32) (ac : Nat) (hw : Int32) (K F T Ln Wy Fo Tk Ne : Nat → Int32) (x : Int32)  : Met l yX2_before (Cond.code yX2_before cX2_before 2 (some .int) :: wsL_law) ({ frames := 1, cells := 0, slots := 0, locals := 21 } : Room) (va_Pc [.ref (y 0), .int x] (fx_Pre (dC, dI) classes (fq_ty cI cA cZ) A (wM c0 c1 c2 c3 c4 c5 c6 y cI cZ n ar gl lo pg ca ac hw K F T Ln Wy Fo Tk Ne ++ rest))) (vp_Si (fun r => r = mqdist n hw Tk Fo x)) 0 0 (fun _ => False) := by
  refine Met.ofW (cc := cX2_before) (maxL := 2) (ret := (some .int)) (by decide) rfl ?_
  intro p e s m args below meth c s₁ B0 hml hv
  obtain ⟨rfl, hA, hP, hK, hD, hN⟩ := hv
  have hx := B0.exec
  have hb := B0.bytes
  have hr := B0.returns
  have hts0 := atoms_spec (ws := (Cond.code yX2_before cX2_before 2 (some .int) :: wsL_law)) B0.pre
  have hts := fun w (h : w ∈ wsL_law) => hts0 w (List.mem_cons_of_mem _ h)
  have hown : s.vm.findClass RX2 = some m.cls := findClass_of_methodNamed B0.named
  have hlocks := B0.notSynchronized
  have hF : CallFix p m c cX2_before 2 s ([.ref (y 0), .int x] : List Value).toArray wsL_law RX2 := ⟨hx, hb, hml, hown, hts⟩
  have hS : va_S A s.heap s.heap [] := va_S.rf
  have hl := lv_entry ([.ref (y 0), .int x]) (n := 2) (Nat.le_of_ble_eq_true rfl)
  rw [lg_entry_eq]
  generalize (lg_sl ([.ref (y 0), .int x]) ++ List.replicate (2 - (lg_sl ([.ref (y 0), .int x])).length) Slot.unset).toArray = ls at hl ⊢
  have hl : lv_has ls 2 [(0, .ref (y 0)), (1, .int x)] := hl
  have hn31 : n < 2 ^ 31 := by omega
  refine lv_aload_n hx hb dX2_before_0 rfl (lv_at hl 0 rfl) ?_
  refine va_get (D := (dC, dI)) (ci := 2) (v := .int hw) (C := RX2) (T := TX2) (N := 16) hx hb hts inlX2 hown hK hP 7 rfl rfl 11 (by decide) (hts _ km_211) (fun _ h9 => h9) rfl dX2_before_1 ?_
  refine lv_if_eq (tgt := 33) hx hb dX2_before_4 (by decide) (fun c_4 => ?_) (fun c_4 => ?_)
  · refine lv_iconst (v := (-1)) hx hb dX2_before_33 (by decide) ?_
    exact fx_sret hx hb hr hlocks dX2_before_34 (by unfold mqdist; rw [if_pos c_4])
  · refine lv_aload_n hx hb dX2_before_7 rfl (lv_at hl 0 rfl) ?_
    refine lv_iload_n hx hb dX2_before_8 rfl (lv_at hl 1 rfl) ?_
    refine fx_Vs (rest := []) (sq_isItem l dC dI A cI cA cZ rest c0 c1 c2 c3 c4 c5 c6 y n hn ar gl lo pg ca ac hw K F T Ln Wy Fo Tk Ne x) hF (cw_RX2_51 hts ⟨Nat.le_of_ble_eq_true rfl, Nat.le_of_ble_eq_true rfl⟩) hA hS hP hK hD hN 7 2 rfl rfl rfl hl.1 rfl (Nat.le_of_ble_eq_true rfl) dX2_before_9 ⟨Nat.le_of_ble_eq_true rfl, Nat.le_of_ble_eq_true rfl⟩ (fun r h => ?_)
    rcases h with ⟨rfl, ⟨j, hj, rfl⟩⟩ | ⟨rfl, h⟩
    · refine lv_if_eq (tgt := 33) hx hb dX2_before_12 (by decide) (fun h9 => absurd h9 (by decide)) (fun _ => ?_)
      refine lv_aload_n hx hb dX2_before_15 rfl (lv_at hl 0 rfl) ?_
      refine va_get (D := (dC, dI)) (ci := 2) (v := .ref (y 7)) (C := RX2) (T := TX2) (N := 16) hx hb hts inlX2 hown hK hP 7 rfl rfl 14 (by decide) (hts _ km_49) (fun _ h9 => h9) rfl dX2_before_16 ?_
      refine lv_iload_n hx hb dX2_before_19 rfl (lv_at hl 1 rfl) ?_
      refine fx_zald hx hb hK hP 14 2 rfl rfl j rfl (by omega) (by decide) dX2_before_20 ?_
      refine lv_if_eq (tgt := 33) hx hb dX2_before_21 (by decide) (fun c_21 => ?_) (fun c_21 => ?_)
      · refine lv_iconst (v := (-1)) hx hb dX2_before_33 (by decide) ?_
        exact fx_sret hx hb hr hlocks dX2_before_34 (by unfold mqdist; rw [if_neg c_4, fqat_some hj hn31]; dsimp only; rw [if_pos c_21])
      · refine lv_aload_n hx hb dX2_before_24 rfl (lv_at hl 0 rfl) ?_
        refine va_get (D := (dC, dI)) (ci := 2) (v := .ref (y 6)) (C := RX2) (T := TX2) (N := 16) hx hb hts inlX2 hown hK hP 7 rfl rfl 13 (by decide) (hts _ km_47) (fun _ h9 => h9) rfl dX2_before_25 ?_
        refine lv_iload_n hx hb dX2_before_28 rfl (lv_at hl 1 rfl) ?_
        refine fx_ald hx hb hK hP 13 0 rfl rfl j rfl (by omega) (by decide) dX2_before_29 ?_
        refine lv_goto (tgt := 34) hx hb dX2_before_30 (by decide) ?_
        exact fx_sret hx hb hr hlocks dX2_before_34 (by unfold mqdist; rw [if_neg c_4, fqat_some hj hn31]; dsimp only; rw [if_neg c_21])
    · refine lv_if_eq (tgt := 33) hx hb dX2_before_12 (by decide) (fun _ => ?_) (fun h9 => absurd h9 (by decide))
      refine lv_iconst (v := (-1)) hx hb dX2_before_33 (by decide) ?_
      exact fx_sret hx hb hr hlocks dX2_before_34 (by unfold mqdist; rw [if_neg c_4, fqat_none hn31 h])
set_option maxHeartbeats 4000000 in
set_option maxRecDepth 100000 in
theorem sq_sound (l : Launch) (dC : Nat → ClassId) (dI : Nat → Nat → Nat) (A : Nat → Prop) (cI cA cZ : ClassId) (rest : va_W) (c0 c1 c2 c3 c4 c5 c6 : Nat × va_E) (y : Nat → Nat) (n : Nat) (hn : n ≤ 40) (ar : Nat) (gl : Int32) (lo pg ca : Int32) (ac : Nat) (hw : Int32) (K F T Ln Wy Fo Tk Ne : Nat → Int32)  : Met l yX2_sound (Cond.code yX2_sound cX2_sound 1 (some .boolean) :: wsL_law) ({ frames := 0, cells := 0, slots := 0, locals := 0 } : Room) (va_Pc [.ref (y 0)] (fx_Pre (dC, dI) classes (fq_ty cI cA cZ) A (wM c0 c1 c2 c3 c4 c5 c6 y cI cZ n ar gl lo pg ca ac hw K F T Ln Wy Fo Tk Ne ++ rest))) (vp_Si (fun r => r = 1)) 0 0 (fun _ => False) := by
  refine Met.ofW (cc := cX2_sound) (maxL := 1) (ret := (some .boolean)) (by decide) rfl ?_
  intro p e s m args below meth c s₁ B0 hml hv
  obtain ⟨rfl, hA, hP, hK, hD, hN⟩ := hv
  have hx := B0.exec
  have hb := B0.bytes
  have hr := B0.returns
  have hts0 := atoms_spec (ws := (Cond.code yX2_sound cX2_sound 1 (some .boolean) :: wsL_law)) B0.pre
  have hts := fun w (h : w ∈ wsL_law) => hts0 w (List.mem_cons_of_mem _ h)
  have hown : s.vm.findClass RX2 = some m.cls := findClass_of_methodNamed B0.named
  have hlocks := B0.notSynchronized
  have hF : CallFix p m c cX2_sound 1 s ([.ref (y 0)] : List Value).toArray wsL_law RX2 := ⟨hx, hb, hml, hown, hts⟩
  have hS : va_S A s.heap s.heap [] := va_S.rf
  have hl := lv_entry ([.ref (y 0)]) (n := 1) (Nat.le_of_ble_eq_true rfl)
  rw [lg_entry_eq]
  generalize (lg_sl ([.ref (y 0)]) ++ List.replicate (1 - (lg_sl ([.ref (y 0)])).length) Slot.unset).toArray = ls at hl ⊢
  have hl : lv_has ls 1 [(0, .ref (y 0))] := hl
  have hn31 : n < 2 ^ 31 := by omega
  refine lv_iconst (v := 1) hx hb dX2_sound_0 (by decide) ?_
  exact fx_bret hx hb hr (Or.inr rfl) hlocks dX2_sound_1 (rfl)
set_option maxHeartbeats 4000000 in
set_option maxRecDepth 100000 in
theorem sq_count (l : Launch) (dC : Nat → ClassId) (dI : Nat → Nat → Nat) (A : Nat → Prop) (cI cA cZ : ClassId) (rest : va_W) (c0 c1 c2 c3 c4 c5 c6 : Nat × va_E) (y : Nat → Nat) (n : Nat) (hn : n ≤ 40) (ar : Nat) (gl : Int32) (lo pg ca : Int32) (ac : Nat) (hw : Int32) (K F T Ln Wy Fo Tk Ne : Nat → Int32) (x : Int32)  : Met l yX2_count (Cond.code yX2_count cX2_count 2 (some .int) :: wsL_law) ({ frames := 0, cells := 0, slots := 0, locals := 0 } : Room) (va_Pc [.ref (y 0), .int x] (fx_Pre (dC, dI) classes (fq_ty cI cA cZ) A (wM c0 c1 c2 c3 c4 c5 c6 y cI cZ n ar gl lo pg ca ac hw K F T Ln Wy Fo Tk Ne ++ rest))) (vp_Si (fun r => r = fqcount n (nI ac) ca x)) 0 0 (fun _ => False) := by
  refine Met.ofW (cc := cX2_count) (maxL := 2) (ret := (some .int)) (by decide) rfl ?_
  intro p e s m args below meth c s₁ B0 hml hv
  obtain ⟨rfl, hA, hP, hK, hD, hN⟩ := hv
  have hx := B0.exec
  have hb := B0.bytes
  have hr := B0.returns
  have hts0 := atoms_spec (ws := (Cond.code yX2_count cX2_count 2 (some .int) :: wsL_law)) B0.pre
  have hts := fun w (h : w ∈ wsL_law) => hts0 w (List.mem_cons_of_mem _ h)
  have hown : s.vm.findClass RX2 = some m.cls := findClass_of_methodNamed B0.named
  have hlocks := B0.notSynchronized
  have hF : CallFix p m c cX2_count 2 s ([.ref (y 0), .int x] : List Value).toArray wsL_law RX2 := ⟨hx, hb, hml, hown, hts⟩
  have hS : va_S A s.heap s.heap [] := va_S.rf
  have hl := lv_entry ([.ref (y 0), .int x]) (n := 2) (Nat.le_of_ble_eq_true rfl)
  rw [lg_entry_eq]
  generalize (lg_sl ([.ref (y 0), .int x]) ++ List.replicate (2 - (lg_sl ([.ref (y 0), .int x])).length) Slot.unset).toArray = ls at hl ⊢
  have hl : lv_has ls 2 [(0, .ref (y 0)), (1, .int x)] := hl
  have hn31 : n < 2 ^ 31 := by omega
  refine lv_iload_n hx hb dX2_count_0 rfl (lv_at hl 1 rfl) ?_
  refine lv_if_ne (tgt := 11) hx hb dX2_count_1 (by decide) (fun c_1 => ?_) (fun c_1 => ?_)
  · refine lv_iload_n hx hb dX2_count_11 rfl (lv_at hl 1 rfl) ?_
    refine lv_iconst (v := 1) hx hb dX2_count_12 (by decide) ?_
    refine lv_icmp_ne (tgt := 23) hx hb dX2_count_13 (by decide) (fun c_13 => ?_) (fun c_13 => ?_)
    · refine lv_iload_n hx hb dX2_count_23 rfl (lv_at hl 1 rfl) ?_
      refine lv_iconst (v := 2) hx hb dX2_count_24 (by decide) ?_
      refine lv_icmp_ne (tgt := 35) hx hb dX2_count_25 (by decide) (fun c_25 => ?_) (fun c_25 => ?_)
      · refine lv_iconst (v := (-1)) hx hb dX2_count_35 (by decide) ?_
        exact fx_sret hx hb hr hlocks dX2_count_36 (by unfold fqcount; rw [if_neg c_1, if_neg c_13, if_neg c_25])
      · refine lv_aload_n hx hb dX2_count_28 rfl (lv_at hl 0 rfl) ?_
        refine va_get (D := (dC, dI)) (ci := 2) (v := .int ca) (C := RX2) (T := TX2) (N := 16) hx hb hts inlX2 hown hK hP 7 rfl rfl 6 (by decide) (hts _ km_97) (fun _ h9 => h9) rfl dX2_count_29 ?_
        refine lv_goto (tgt := 36) hx hb dX2_count_32 (by decide) ?_
        exact fx_sret hx hb hr hlocks dX2_count_36 (by unfold fqcount; rw [if_neg c_1, if_neg c_13, if_pos c_25])
    · refine lv_aload_n hx hb dX2_count_16 rfl (lv_at hl 0 rfl) ?_
      refine va_get (D := (dC, dI)) (ci := 2) (v := .int (nI ac)) (C := RX2) (T := TX2) (N := 16) hx hb hts inlX2 hown hK hP 7 rfl rfl 7 (by decide) (hts _ km_210) (fun _ h9 => h9) rfl dX2_count_17 ?_
      refine lv_goto (tgt := 36) hx hb dX2_count_20 (by decide) ?_
      exact fx_sret hx hb hr hlocks dX2_count_36 (by unfold fqcount; rw [if_neg c_1, if_pos c_13])
  · refine lv_aload_n hx hb dX2_count_4 rfl (lv_at hl 0 rfl) ?_
    refine va_get (D := (dC, dI)) (ci := 2) (v := .int (nI n)) (C := RX2) (T := TX2) (N := 16) hx hb hts inlX2 hown hK hP 7 rfl rfl 0 (by decide) (hts _ km_51) (fun _ h9 => h9) rfl dX2_count_5 ?_
    refine lv_goto (tgt := 36) hx hb dX2_count_8 (by decide) ?_
    exact fx_sret hx hb hr hlocks dX2_count_36 (by unfold fqcount; rw [if_pos c_1])
end
section
theorem cw_RX2_45 {R : Room} {s : State} {args : Array Value} {rm : Room} (hts : ∀ w ∈ wsL_law, w.before args s = true) (hR : rm.frames + 1 ≤ R.frames ∧ 8 + (2 + 11) + rm.locals ≤ R.locals) : CallW R s args RX2 RX2 45 yX2_clear cX2_clear 2 none (Cond.code yX2_clear cX2_clear 2 none :: wsL_law) rm rm.cells rm.slots 0 := cwV 0 hts (km_app (km_four km_54 km_55 km_56 km_5) (km_in km_57)) rfl rfl rfl (by decide +kernel) hR
theorem cw_RX2_95 {R : Room} {s : State} {args : Array Value} {rm : Room} (hts : ∀ w ∈ wsL_law, w.before args s = true) (hR : rm.frames + 1 ≤ R.frames ∧ 8 + (4 + 11) + rm.locals ≤ R.locals) : CallW R s args RX2 RX2 95 yX2_spread cX2_spread 4 none (Cond.code yX2_spread cX2_spread 4 none :: wsL_law) rm rm.cells rm.slots 1 := cwV 1 hts (km_app (km_four km_254 km_255 km_256 km_5) (km_in km_257)) rfl rfl rfl (by decide +kernel) hR
theorem cw_RX2_83 {R : Room} {s : State} {args : Array Value} {rm : Room} (hts : ∀ w ∈ wsL_law, w.before args s = true) (hR : rm.frames + 1 ≤ R.frames ∧ 8 + (3 + 11) + rm.locals ≤ R.locals) : CallW R s args RX2 RX2 83 yX2_size cX2_size 3 (some .int) (Cond.code yX2_size cX2_size 3 (some .int) :: wsL_law) rm rm.cells rm.slots 0 := cwV 0 hts (km_app (km_four km_246 km_154 km_155 km_5) (km_in km_156)) rfl rfl rfl (by decide +kernel) hR
theorem cw_RX2_88 {R : Room} {s : State} {args : Array Value} {rm : Room} (hts : ∀ w ∈ wsL_law, w.before args s = true) (hR : rm.frames + 1 ≤ R.frames ∧ 8 + (4 + 11) + rm.locals ≤ R.locals) : CallW R s args RX2 RX2 88 yX2_pop cX2_pop 4 (some .int) (Cond.code yX2_pop cX2_pop 4 (some .int) :: wsL_law) rm rm.cells rm.slots 0 := cwV 0 hts (km_app (km_four km_247 km_138 km_139 km_5) (km_in km_140)) rfl rfl rfl (by decide +kernel) hR
theorem cw_RX2_91 {R : Room} {s : State} {args : Array Value} {rm : Room} (hts : ∀ w ∈ wsL_law, w.before args s = true) (hR : rm.frames + 1 ≤ R.frames ∧ 8 + (6 + 11) + rm.locals ≤ R.locals) : CallW R s args RX2 RX2 91 yX2_reach cX2_reach 6 none (Cond.code yX2_reach cX2_reach 6 none :: wsL_law) rm rm.cells rm.slots 3 := cwV 3 hts (km_app (km_four km_248 km_249 km_250 km_5) (km_in km_251)) rfl rfl rfl (by decide +kernel) hR
set_option maxHeartbeats 4000000 in
set_option maxRecDepth 100000 in
theorem sq_run (l : Launch) (dC : Nat → ClassId) (dI : Nat → Nat → Nat) (A : Nat → Prop) (cI cA cZ : ClassId) (rest : va_W) (c0 c1 c2 c3 c4 c5 c6 : Nat × va_E) (y : Nat → Nat) (n : Nat) (hn : n ≤ 40) (ar : Nat) (gl : Int32) (lo pg ca : Int32) (ac : Nat) (hw : Int32) (K F T Ln Wy Fo Tk Ne : Nat → Int32) (x : Int32) (hac : ac ≤ 300) (hnet : mqnet n ac F T) : Met l yX2_run (Cond.code yX2_run cX2_run 5 (some .int) :: wsL_law) ({ frames := 4, cells := 0, slots := 0, locals := 89 } : Room) (va_Pc [.ref (y 0), .int x] (fx_Pre (dC, dI) classes (fq_ty cI cA cZ) A (wM c0 c1 c2 c3 c4 c5 c6 y cI cZ n ar gl lo pg ca ac hw K F T Ln Wy Fo Tk Ne ++ rest))) (va_Qi (S := mqX) (fun r u => (r, u) = mqrun n F T Ln ac (((lo, pg, ca, K), Wy, Fo, Tk), Ne, hw) x) (fx_B (dC, dI) classes (fq_ty cI cA cZ) A (fun u : mqX => wM c0 c1 c2 c3 c4 c5 c6 y cI cZ n ar gl u.1.1.1 u.1.1.2.1 u.1.1.2.2.1 ac u.2.2 u.1.1.2.2.2 F T Ln u.1.2.1 u.1.2.2.1 u.1.2.2.2 u.2.1 ++ rest)) A) 0 0 A := by
  refine Met.ofW (cc := cX2_run) (maxL := 5) (ret := (some .int)) (by decide) rfl ?_
  intro p e s m args below meth c s₁ B0 hml hv
  obtain ⟨rfl, hA, hP, hK, hD, hN⟩ := hv
  have hx := B0.exec
  have hb := B0.bytes
  have hr := B0.returns
  have hts0 := atoms_spec (ws := (Cond.code yX2_run cX2_run 5 (some .int) :: wsL_law)) B0.pre
  have hts := fun w (h : w ∈ wsL_law) => hts0 w (List.mem_cons_of_mem _ h)
  have hown : s.vm.findClass RX2 = some m.cls := findClass_of_methodNamed B0.named
  have hlocks := B0.notSynchronized
  have hF : CallFix p m c cX2_run 5 s ([.ref (y 0), .int x] : List Value).toArray wsL_law RX2 := ⟨hx, hb, hml, hown, hts⟩
  have hS : va_S A s.heap s.heap [] := va_S.rf
  have hl := lv_entry ([.ref (y 0), .int x]) (n := 5) (Nat.le_of_ble_eq_true rfl)
  rw [lg_entry_eq]
  generalize (lg_sl ([.ref (y 0), .int x]) ++ List.replicate (5 - (lg_sl ([.ref (y 0), .int x])).length) Slot.unset).toArray = ls at hl ⊢
  have hl : lv_has ls 5 [(0, .ref (y 0)), (1, .int x)] := hl
  have hn31 : n < 2 ^ 31 := by omega
  refine lv_aload_n hx hb dX2_run_0 rfl (lv_at hl 0 rfl) ?_
  refine lv_iload_n hx hb dX2_run_1 rfl (lv_at hl 1 rfl) ?_
  refine fx_Vs (rest := []) (sq_isItem l dC dI A cI cA cZ rest c0 c1 c2 c3 c4 c5 c6 y n hn ar gl lo pg ca ac hw K F T Ln Wy Fo Tk Ne x) hF (cw_RX2_51 hts ⟨Nat.le_of_ble_eq_true rfl, Nat.le_of_ble_eq_true rfl⟩) hA hS hP hK hD hN 7 2 rfl rfl rfl hl.1 rfl (Nat.le_of_ble_eq_true rfl) dX2_run_2 ⟨Nat.le_of_ble_eq_true rfl, Nat.le_of_ble_eq_true rfl⟩ (fun r h => ?_)
  rcases h with ⟨rfl, ⟨j, hj, rfl⟩⟩ | ⟨rfl, h⟩
  · refine lv_if_ne (tgt := 10) hx hb dX2_run_5 (by decide) (fun _ => ?_) (fun h9 => absurd h9 (by decide))
    refine lv_aload_n hx hb dX2_run_10 rfl (lv_at hl 0 rfl) ?_
    refine fx_Vv (rest := []) (sq_clear l dC dI A cI cA cZ rest c0 c1 c2 c3 c4 c5 c6 y n hn ar gl lo pg ca ac hw K F T Ln Wy Fo Tk Ne) hF (cw_RX2_45 hts ⟨Nat.le_of_ble_eq_true rfl, Nat.le_of_ble_eq_true rfl⟩) hA hS hP hK hD hN 7 2 rfl rfl rfl hl.1 rfl (Nat.le_of_ble_eq_true rfl) dX2_run_11 ⟨Nat.le_of_ble_eq_true rfl, Nat.le_of_ble_eq_true rfl⟩ (fun u9 H locs h hP hD hS => ?_)
    subst h
    have hP : va_P (dC, dI) classes (wM c0 c1 c2 c3 c4 c5 c6 y cI cZ n ar gl 0 pg ca ac hw (fqfill 40 (-1) K) F T Ln Wy Fo Tk Ne ++ rest) H := hP
    have hD : va_D A (wM c0 c1 c2 c3 c4 c5 c6 y cI cZ n ar gl 0 pg ca ac hw (fqfill 40 (-1) K) F T Ln Wy Fo Tk Ne ++ rest) := hD
    have K177 : ∀ (lo' pg' ca' : Int32) (K' Wy' Fo' Tk' : Nat → Int32) (H : Heap) (locs : List Loc) (ls : Array Slot), ((lo', pg', ca', K'), Wy', Fo', Tk') = mqloop n F T Ln ac (n + 1) ((mqpush n (mqclear (lo, pg, ca, K)) (nI j) 0).2, Wy, fqfill 40 (-1) Fo, fqfill 40 0 Tk) → va_P (dC, dI) classes (wM c0 c1 c2 c3 c4 c5 c6 y cI cZ n ar gl lo' pg' ca' ac hw K' F T Ln Wy' Fo' Tk' Ne ++ rest) H → va_D A (wM c0 c1 c2 c3 c4 c5 c6 y cI cZ n ar gl lo' pg' ca' ac hw K' F T Ln Wy' Fo' Tk' Ne ++ rest) → va_S A s.heap H locs → lv_has ls 5 [(0, .ref (y 0)), (1, .int (nI j))] → W p l e (headSpec (Cond.code yX2_run cX2_run 5 (some .int) :: wsL_law) ({ frames := 4, cells := 0, slots := 0, locals := 89 } : Room)).room s m ([.ref (y 0), .int (nI j)] : List Value).toArray below meth c H locs 0 0 (MQ below (va_Qi (S := mqX) (fun r u => (r, u) = mqrun n F T Ln ac (((lo, pg, ca, K), Wy, Fo, Tk), Ne, hw) (nI j)) (fx_B (dC, dI) classes (fq_ty cI cA cZ) A (fun u : mqX => wM c0 c1 c2 c3 c4 c5 c6 y cI cZ n ar gl u.1.1.1 u.1.1.2.1 u.1.1.2.2.1 ac u.2.2 u.1.1.2.2.2 F T Ln u.1.2.1 u.1.2.2.1 u.1.2.2.2 u.2.1 ++ rest)) A) ([.ref (y 0), .int (nI j)] : List Value).toArray s 0 0 A) (F0 m 177 ls []) := by
      intro lo' pg' ca' K' Wy' Fo' Tk' H locs ls hq hP hD hS hl
      refine lv_aload_n hx hb dX2_run_177 rfl (lv_at hl 0 rfl) ?_
      refine lv_iload_n hx hb dX2_run_178 rfl (lv_at hl 1 rfl) ?_
      refine fx_Vv (rest := []) (sq_spread l dC dI A cI cA cZ rest c0 c1 c2 c3 c4 c5 c6 y n hn ar gl lo' pg' ca' ac hw K' F T Ln Wy' Fo' Tk' Ne j hj hac hnet) hF (cw_RX2_95 hts ⟨Nat.le_of_ble_eq_true rfl, Nat.le_of_ble_eq_true rfl⟩) hA hS hP hK hD hN 7 2 rfl rfl rfl hl.1 rfl (Nat.le_of_ble_eq_true rfl) dX2_run_179 ⟨Nat.le_of_ble_eq_true rfl, Nat.le_of_ble_eq_true rfl⟩ (fun u9 H locs hsp hP hD hS => ?_)
      have hP : va_P (dC, dI) classes (wM c0 c1 c2 c3 c4 c5 c6 y cI cZ n ar gl lo' pg' ca' ac hw K' F T Ln Wy' Fo' Tk' u9 ++ rest) H := hP
      have hD : va_D A (wM c0 c1 c2 c3 c4 c5 c6 y cI cZ n ar gl lo' pg' ca' ac hw K' F T Ln Wy' Fo' Tk' u9 ++ rest) := hD
      refine lv_aload_n hx hb dX2_run_182 rfl (lv_at hl 0 rfl) ?_
      refine lv_iconst (v := 1) hx hb dX2_run_183 (by decide) ?_
      refine va_put (D := (dC, dI)) (ci := 2) (v := .int 1) (ty := .boolean) (C := RX2) (T := TX2) (N := 16) hx hb hts inlX2 tyX2 tyX2_ok nmX2 hown hK hP hD hS 7 rfl rfl 11 (by decide) (hts _ km_211) (fun _ h9 => h9) rfl (by decide +kernel) rfl rfl (Nat.le_of_ble_eq_true rfl) dX2_run_184 (fun H locs hP hD hS => ?_)
      have hP : va_P (dC, dI) classes (wM c0 c1 c2 c3 c4 c5 c6 y cI cZ n ar gl lo' pg' ca' ac 1 K' F T Ln Wy' Fo' Tk' u9 ++ rest) H := hP
      have hD : va_D A (wM c0 c1 c2 c3 c4 c5 c6 y cI cZ n ar gl lo' pg' ca' ac 1 K' F T Ln Wy' Fo' Tk' u9 ++ rest) := hD
      have K189 : ∀ (d i : Nat) (hv : Int32) (H : Heap) (locs : List Loc) (ls : Array Slot), d + i = n → (mqok Tk' u9 d i hv = mqok Tk' u9 n 0 1) → va_P (dC, dI) classes (wM c0 c1 c2 c3 c4 c5 c6 y cI cZ n ar gl lo' pg' ca' ac hv K' F T Ln Wy' Fo' Tk' u9 ++ rest) H → va_D A (wM c0 c1 c2 c3 c4 c5 c6 y cI cZ n ar gl lo' pg' ca' ac hv K' F T Ln Wy' Fo' Tk' u9 ++ rest) → va_S A s.heap H locs → lv_has ls 5 [(0, .ref (y 0)), (1, .int (nI j)), (2, .int (nI i))] → W p l e (headSpec (Cond.code yX2_run cX2_run 5 (some .int) :: wsL_law) ({ frames := 4, cells := 0, slots := 0, locals := 89 } : Room)).room s m ([.ref (y 0), .int (nI j)] : List Value).toArray below meth c H locs 0 0 (MQ below (va_Qi (S := mqX) (fun r u => (r, u) = mqrun n F T Ln ac (((lo, pg, ca, K), Wy, Fo, Tk), Ne, hw) (nI j)) (fx_B (dC, dI) classes (fq_ty cI cA cZ) A (fun u : mqX => wM c0 c1 c2 c3 c4 c5 c6 y cI cZ n ar gl u.1.1.1 u.1.1.2.1 u.1.1.2.2.1 ac u.2.2 u.1.1.2.2.2 F T Ln u.1.2.1 u.1.2.2.1 u.1.2.2.2 u.2.1 ++ rest)) A) ([.ref (y 0), .int (nI j)] : List Value).toArray s 0 0 A) (F0 m 189 ls []) := by
        intro d
        induction d with
        | zero =>
          intro i hv H locs ls hdi hok hP hD hS hl
          have e0 : i = n := by omega
          have hok : hv = mqok Tk' u9 n 0 1 := hok
          refine lv_iload_n hx hb dX2_run_189 rfl (lv_at hl 2 rfl) ?_
          refine lv_aload_n hx hb dX2_run_190 rfl (lv_at hl 0 rfl) ?_
          refine va_get (D := (dC, dI)) (ci := 2) (v := .int (nI n)) (C := RX2) (T := TX2) (N := 16) hx hb hts inlX2 hown hK hP 7 rfl rfl 0 (by decide) (hts _ km_51) (fun _ h9 => h9) rfl dX2_run_191 ?_
          refine lv_icmp_ge (tgt := 237) hx hb dX2_run_194 (by decide) (fun c_194 => ?_) (fun c_194 => ?_)
          · refine lv_aload_n hx hb dX2_run_237 rfl (lv_at hl 0 rfl) ?_
            refine va_get (D := (dC, dI)) (ci := 2) (v := .int hv) (C := RX2) (T := TX2) (N := 16) hx hb hts inlX2 hown hK hP 7 rfl rfl 11 (by decide) (hts _ km_211) (fun _ h9 => h9) rfl dX2_run_238 ?_
            refine lv_if_eq (tgt := 248) hx hb dX2_run_241 (by decide) (fun c_241 => ?_) (fun c_241 => ?_)
            · refine lv_bipush (v := (-2)) hx hb dX2_run_248 (by decide) ?_
              exact fx_iret hx hb hr hlocks hK hS dX2_run_250 (((lo', pg', ca', K'), Wy', Fo', Tk'), u9, hv) (by unfold mqrun; rw [fqat_some hj hn31]; dsimp only; rw [← hq]; unfold mqfin; dsimp only; rw [← hsp, ← hok, if_pos c_241]) hP hD
            · refine lv_iconst (v := 0) hx hb dX2_run_244 (by decide) ?_
              refine lv_goto (tgt := 250) hx hb dX2_run_245 (by decide) ?_
              exact fx_iret hx hb hr hlocks hK hS dX2_run_250 (((lo', pg', ca', K'), Wy', Fo', Tk'), u9, hv) (by unfold mqrun; rw [fqat_some hj hn31]; dsimp only; rw [← hq]; unfold mqfin; dsimp only; rw [← hsp, ← hok, if_neg c_241]) hP hD
          · exact absurd (nI_le (by omega) (by omega)) c_194
        | succ d ih =>
          intro i hv H locs ls hdi hok hP hD hS hl
          have hi : i < n := by omega
          refine lv_iload_n hx hb dX2_run_189 rfl (lv_at hl 2 rfl) ?_
          refine lv_aload_n hx hb dX2_run_190 rfl (lv_at hl 0 rfl) ?_
          refine va_get (D := (dC, dI)) (ci := 2) (v := .int (nI n)) (C := RX2) (T := TX2) (N := 16) hx hb hts inlX2 hown hK hP 7 rfl rfl 0 (by decide) (hts _ km_51) (fun _ h9 => h9) rfl dX2_run_191 ?_
          refine lv_icmp_ge (tgt := 237) hx hb dX2_run_194 (by decide) (fun c_194 => ?_) (fun c_194 => ?_)
          · exact absurd c_194 (nI_ge hi hn31)
          · refine lv_aload_n hx hb dX2_run_197 rfl (lv_at hl 0 rfl) ?_
            refine lv_aload_n hx hb dX2_run_198 rfl (lv_at hl 0 rfl) ?_
            refine va_get (D := (dC, dI)) (ci := 2) (v := .int hv) (C := RX2) (T := TX2) (N := 16) hx hb hts inlX2 hown hK hP 7 rfl rfl 11 (by decide) (hts _ km_211) (fun _ h9 => h9) rfl dX2_run_199 ?_
            refine lv_if_eq (tgt := 227) hx hb dX2_run_202 (by decide) (fun c_202 => ?_) (fun c_202 => ?_)
            · refine lv_iconst (v := 0) hx hb dX2_run_227 (by decide) ?_
              refine va_put (D := (dC, dI)) (ci := 2) (v := .int 0) (ty := .boolean) (C := RX2) (T := TX2) (N := 16) hx hb hts inlX2 tyX2 tyX2_ok nmX2 hown hK hP hD hS 7 rfl rfl 11 (by decide) (hts _ km_211) (fun _ h9 => h9) rfl (by decide +kernel) rfl rfl (Nat.le_of_ble_eq_true rfl) dX2_run_228 (fun H locs hP hD hS => ?_)
              have hP : va_P (dC, dI) classes (wM c0 c1 c2 c3 c4 c5 c6 y cI cZ n ar gl lo' pg' ca' ac 0 K' F T Ln Wy' Fo' Tk' u9 ++ rest) H := hP
              have hD : va_D A (wM c0 c1 c2 c3 c4 c5 c6 y cI cZ n ar gl lo' pg' ca' ac 0 K' F T Ln Wy' Fo' Tk' u9 ++ rest) := hD
              refine lv_iinc (v := nI (i + 1)) (lv' := [(2, .int (nI (i + 1))), (0, .ref (y 0)), (1, .int (nI j))]) hx hb dX2_run_231 hl (k := 2) rfl (nI_1 i) (by decide) rfl (fun ls hl => ?_)
              refine lv_goto (tgt := 189) hx hb dX2_run_234 (by decide) ?_
              exact ih (i + 1) 0 H locs ls (by omega) (by rw [← hok, mqok_s, if_pos c_202]) hP hD hS (lv_sub hl [1, 2, 0] rfl)
            · refine lv_aload_n hx hb dX2_run_205 rfl (lv_at hl 0 rfl) ?_
              refine va_get (D := (dC, dI)) (ci := 2) (v := .ref (y 7)) (C := RX2) (T := TX2) (N := 16) hx hb hts inlX2 hown hK hP 7 rfl rfl 14 (by decide) (hts _ km_49) (fun _ h9 => h9) rfl dX2_run_206 ?_
              refine lv_iload_n hx hb dX2_run_209 rfl (lv_at hl 2 rfl) ?_
              refine fx_zald hx hb hK hP 14 2 rfl rfl i rfl (by omega) (by decide) dX2_run_210 ?_
              refine lv_if_ne (tgt := 223) hx hb dX2_run_211 (by decide) (fun c_211 => ?_) (fun c_211 => ?_)
              · refine lv_iconst (v := 1) hx hb dX2_run_223 (by decide) ?_
                refine lv_goto (tgt := 228) hx hb dX2_run_224 (by decide) ?_
                refine va_put (D := (dC, dI)) (ci := 2) (v := .int 1) (ty := .boolean) (C := RX2) (T := TX2) (N := 16) hx hb hts inlX2 tyX2 tyX2_ok nmX2 hown hK hP hD hS 7 rfl rfl 11 (by decide) (hts _ km_211) (fun _ h9 => h9) rfl (by decide +kernel) rfl rfl (Nat.le_of_ble_eq_true rfl) dX2_run_228 (fun H locs hP hD hS => ?_)
                have hP : va_P (dC, dI) classes (wM c0 c1 c2 c3 c4 c5 c6 y cI cZ n ar gl lo' pg' ca' ac 1 K' F T Ln Wy' Fo' Tk' u9 ++ rest) H := hP
                have hD : va_D A (wM c0 c1 c2 c3 c4 c5 c6 y cI cZ n ar gl lo' pg' ca' ac 1 K' F T Ln Wy' Fo' Tk' u9 ++ rest) := hD
                refine lv_iinc (v := nI (i + 1)) (lv' := [(2, .int (nI (i + 1))), (0, .ref (y 0)), (1, .int (nI j))]) hx hb dX2_run_231 hl (k := 2) rfl (nI_1 i) (by decide) rfl (fun ls hl => ?_)
                refine lv_goto (tgt := 189) hx hb dX2_run_234 (by decide) ?_
                exact ih (i + 1) 1 H locs ls (by omega) (by rw [← hok, mqok_s, if_neg c_202, if_neg c_211]) hP hD hS (lv_sub hl [1, 2, 0] rfl)
              · refine lv_aload_n hx hb dX2_run_214 rfl (lv_at hl 0 rfl) ?_
                refine va_get (D := (dC, dI)) (ci := 2) (v := .ref (y 8)) (C := RX2) (T := TX2) (N := 16) hx hb hts inlX2 hown hK hP 7 rfl rfl 15 (by decide) (hts _ km_50) (fun _ h9 => h9) rfl dX2_run_215 ?_
                refine lv_iload_n hx hb dX2_run_218 rfl (lv_at hl 2 rfl) ?_
                refine fx_zald hx hb hK hP 15 2 rfl rfl i rfl (by omega) (by decide) dX2_run_219 ?_
                refine lv_if_ne (tgt := 227) hx hb dX2_run_220 (by decide) (fun c_220 => ?_) (fun c_220 => ?_)
                · refine lv_iconst (v := 0) hx hb dX2_run_227 (by decide) ?_
                  refine va_put (D := (dC, dI)) (ci := 2) (v := .int 0) (ty := .boolean) (C := RX2) (T := TX2) (N := 16) hx hb hts inlX2 tyX2 tyX2_ok nmX2 hown hK hP hD hS 7 rfl rfl 11 (by decide) (hts _ km_211) (fun _ h9 => h9) rfl (by decide +kernel) rfl rfl (Nat.le_of_ble_eq_true rfl) dX2_run_228 (fun H locs hP hD hS => ?_)
                  have hP : va_P (dC, dI) classes (wM c0 c1 c2 c3 c4 c5 c6 y cI cZ n ar gl lo' pg' ca' ac 0 K' F T Ln Wy' Fo' Tk' u9 ++ rest) H := hP
                  have hD : va_D A (wM c0 c1 c2 c3 c4 c5 c6 y cI cZ n ar gl lo' pg' ca' ac 0 K' F T Ln Wy' Fo' Tk' u9 ++ rest) := hD
                  refine lv_iinc (v := nI (i + 1)) (lv' := [(2, .int (nI (i + 1))), (0, .ref (y 0)), (1, .int (nI j))]) hx hb dX2_run_231 hl (k := 2) rfl (nI_1 i) (by decide) rfl (fun ls hl => ?_)
                  refine lv_goto (tgt := 189) hx hb dX2_run_234 (by decide) ?_
                  exact ih (i + 1) 0 H locs ls (by omega) (by rw [← hok, mqok_s, if_neg c_202, if_pos c_211, if_neg c_220]) hP hD hS (lv_sub hl [1, 2, 0] rfl)
                · refine lv_iconst (v := 1) hx hb dX2_run_223 (by decide) ?_
                  refine lv_goto (tgt := 228) hx hb dX2_run_224 (by decide) ?_
                  refine va_put (D := (dC, dI)) (ci := 2) (v := .int 1) (ty := .boolean) (C := RX2) (T := TX2) (N := 16) hx hb hts inlX2 tyX2 tyX2_ok nmX2 hown hK hP hD hS 7 rfl rfl 11 (by decide) (hts _ km_211) (fun _ h9 => h9) rfl (by decide +kernel) rfl rfl (Nat.le_of_ble_eq_true rfl) dX2_run_228 (fun H locs hP hD hS => ?_)
                  have hP : va_P (dC, dI) classes (wM c0 c1 c2 c3 c4 c5 c6 y cI cZ n ar gl lo' pg' ca' ac 1 K' F T Ln Wy' Fo' Tk' u9 ++ rest) H := hP
                  have hD : va_D A (wM c0 c1 c2 c3 c4 c5 c6 y cI cZ n ar gl lo' pg' ca' ac 1 K' F T Ln Wy' Fo' Tk' u9 ++ rest) := hD
                  refine lv_iinc (v := nI (i + 1)) (lv' := [(2, .int (nI (i + 1))), (0, .ref (y 0)), (1, .int (nI j))]) hx hb dX2_run_231 hl (k := 2) rfl (nI_1 i) (by decide) rfl (fun ls hl => ?_)
                  refine lv_goto (tgt := 189) hx hb dX2_run_234 (by decide) ?_
                  exact ih (i + 1) 1 H locs ls (by omega) (by rw [← hok, mqok_s, if_neg c_202, if_pos c_211, if_pos c_220]) hP hD hS (lv_sub hl [1, 2, 0] rfl)
      refine lv_iconst (v := 0) hx hb dX2_run_187 (by decide) ?_
      refine lv_istore_n (lv' := [(2, .int 0), (0, .ref (y 0)), (1, .int (nI j))]) hx hb dX2_run_188 rfl hl (by decide) rfl (fun ls hl => ?_)
      exact K189 n 0 1 H locs ls rfl rfl hP hD hS (lv_sub hl [1, 2, 0] rfl)
    have K49 : ∀ (d : Nat) (lo' pg' ca' : Int32) (K' Wy' Fo' Tk' : Nat → Int32) (H : Heap) (locs : List Loc) (ls : Array Slot), mqT n ((lo', pg', ca', K'), Wy', Fo', Tk') → mqmu n ((lo', pg', ca', K'), Wy', Fo', Tk') < d → mqloop n F T Ln ac d ((lo', pg', ca', K'), Wy', Fo', Tk') = mqloop n F T Ln ac (n + 1) ((mqpush n (mqclear (lo, pg, ca, K)) (nI j) 0).2, Wy, fqfill 40 (-1) Fo, fqfill 40 0 Tk) → va_P (dC, dI) classes (wM c0 c1 c2 c3 c4 c5 c6 y cI cZ n ar gl lo' pg' ca' ac hw K' F T Ln Wy' Fo' Tk' Ne ++ rest) H → va_D A (wM c0 c1 c2 c3 c4 c5 c6 y cI cZ n ar gl lo' pg' ca' ac hw K' F T Ln Wy' Fo' Tk' Ne ++ rest) → va_S A s.heap H locs → lv_has ls 5 [(0, .ref (y 0)), (1, .int (nI j))] → W p l e (headSpec (Cond.code yX2_run cX2_run 5 (some .int) :: wsL_law) ({ frames := 4, cells := 0, slots := 0, locals := 89 } : Room)).room s m ([.ref (y 0), .int (nI j)] : List Value).toArray below meth c H locs 0 0 (MQ below (va_Qi (S := mqX) (fun r u => (r, u) = mqrun n F T Ln ac (((lo, pg, ca, K), Wy, Fo, Tk), Ne, hw) (nI j)) (fx_B (dC, dI) classes (fq_ty cI cA cZ) A (fun u : mqX => wM c0 c1 c2 c3 c4 c5 c6 y cI cZ n ar gl u.1.1.1 u.1.1.2.1 u.1.1.2.2.1 ac u.2.2 u.1.1.2.2.2 F T Ln u.1.2.1 u.1.2.2.1 u.1.2.2.2 u.2.1 ++ rest)) A) ([.ref (y 0), .int (nI j)] : List Value).toArray s 0 0 A) (F0 m 49 ls []) := by
      intro d
      induction d with
      | zero => intro lo' pg' ca' K' Wy' Fo' Tk' H locs ls _ h9; omega
      | succ d ih =>
        intro lo' pg' ca' K' Wy' Fo' Tk' H locs ls hT hmu hq hP hD hS hl
        refine lv_aload_n hx hb dX2_run_49 rfl (lv_at hl 0 rfl) ?_
        refine fx_Vs (rest := []) (sq_size l dC dI A cI cA cZ rest c0 c1 c2 c3 c4 c5 c6 y n hn ar gl lo' pg' ca' ac hw K' F T Ln Wy' Fo' Tk' Ne) hF (cw_RX2_83 hts ⟨Nat.le_of_ble_eq_true rfl, Nat.le_of_ble_eq_true rfl⟩) hA hS hP hK hD hN 7 2 rfl rfl rfl hl.1 rfl (Nat.le_of_ble_eq_true rfl) dX2_run_50 ⟨Nat.le_of_ble_eq_true rfl, Nat.le_of_ble_eq_true rfl⟩ (fun r9 h9 => ?_)
        subst h9
        refine lv_if_le (tgt := 177) hx hb dX2_run_53 (by decide) (fun c_53 => ?_) (fun c_53 => ?_)
        · exact K177 lo' pg' ca' K' Wy' Fo' Tk' H locs ls (by rw [← hq, mqloop_s, if_neg (Int32.not_lt.mpr c_53)]) hP hD hS (lv_sub hl [0, 1] rfl)
        · have c_53 := Int32.not_le.mp c_53
          obtain ⟨j1, hj1, hk1, e1, e2⟩ := mqpop_some (q := (lo', pg', ca', K')) c_53
          have hN1 := mqnext_T (Ln := Ln) (ac := ac) (s := ((lo', pg', ca', K'), Wy', Fo', Tk')) hn hnet hT c_53
          have K106 : ∀ (ls : Array Slot), lv_has ls 5 [(0, .ref (y 0)), (1, .int (nI j)), (2, .int (mqleast K' n 0 2147483647))] → W p l e (headSpec (Cond.code yX2_run cX2_run 5 (some .int) :: wsL_law) ({ frames := 4, cells := 0, slots := 0, locals := 89 } : Room)).room s m ([.ref (y 0), .int (nI j)] : List Value).toArray below meth c H locs 0 0 (MQ below (va_Qi (S := mqX) (fun r u => (r, u) = mqrun n F T Ln ac (((lo, pg, ca, K), Wy, Fo, Tk), Ne, hw) (nI j)) (fx_B (dC, dI) classes (fq_ty cI cA cZ) A (fun u : mqX => wM c0 c1 c2 c3 c4 c5 c6 y cI cZ n ar gl u.1.1.1 u.1.1.2.1 u.1.1.2.2.1 ac u.2.2 u.1.1.2.2.2 F T Ln u.1.2.1 u.1.2.2.1 u.1.2.2.2 u.2.1 ++ rest)) A) ([.ref (y 0), .int (nI j)] : List Value).toArray s 0 0 A) (F0 m 106 ls []) := by
            intro ls hl
            refine lv_aload_n hx hb dX2_run_106 rfl (lv_at hl 0 rfl) ?_
            refine fx_Vi (rest := []) (sq_pop l dC dI A cI cA cZ rest c0 c1 c2 c3 c4 c5 c6 y n hn ar gl lo' pg' ca' ac hw K' F T Ln Wy' Fo' Tk' Ne hT.1) hF (cw_RX2_88 hts ⟨Nat.le_of_ble_eq_true rfl, Nat.le_of_ble_eq_true rfl⟩) hA hS hP hK hD hN 7 2 rfl rfl rfl hl.1 rfl (Nat.le_of_ble_eq_true rfl) dX2_run_107 ⟨Nat.le_of_ble_eq_true rfl, Nat.le_of_ble_eq_true rfl⟩ (fun r9 u9 H locs hp hP hD hS => ?_)
            have er : r9 = nI j1 := by rw [← e1, ← hp]
            subst er
            have hT1 := mqpop_T (W0 := upd Wy' j1 (mqleast K' n 0 2147483647)) hT hn hj1 hk1 e2
            have hp2 : u9 = (mqpop n (lo', pg', ca', K')).2 := by rw [← hp]
            have hnx : mqsweep n F T Ln j1 ac (u9, upd Wy' j1 (mqleast K' n 0 2147483647), Fo', upd Tk' j1 1) = mqnext n F T Ln ac ((lo', pg', ca', K'), Wy', Fo', Tk') := by unfold mqnext; dsimp only; rw [e1, fqn_nI (by omega), hp2]
            have hT1 : mqT n (u9, upd Wy' j1 (mqleast K' n 0 2147483647), Fo', upd Tk' j1 1) := by rw [hp2]; exact hT1
            obtain ⟨lo1, pg1, ca1, K1⟩ := u9
            have hP : va_P (dC, dI) classes (wM c0 c1 c2 c3 c4 c5 c6 y cI cZ n ar gl lo1 pg1 ca1 ac hw K1 F T Ln Wy' Fo' Tk' Ne ++ rest) H := hP
            have hD : va_D A (wM c0 c1 c2 c3 c4 c5 c6 y cI cZ n ar gl lo1 pg1 ca1 ac hw K1 F T Ln Wy' Fo' Tk' Ne ++ rest) := hD
            refine lv_istore_n (lv' := [(3, .int (nI j1)), (0, .ref (y 0)), (1, .int (nI j)), (2, .int (mqleast K' n 0 2147483647))]) hx hb dX2_run_110 rfl hl (by decide) rfl (fun ls hl => ?_)
            refine lv_aload_n hx hb dX2_run_111 rfl (lv_at hl 1 rfl) ?_
            refine va_get (D := (dC, dI)) (ci := 2) (v := .ref (y 5)) (C := RX2) (T := TX2) (N := 16) hx hb hts inlX2 hown hK hP 7 rfl rfl 12 (by decide) (hts _ km_46) (fun _ h9 => h9) rfl dX2_run_112 ?_
            refine lv_iload_n hx hb dX2_run_115 rfl (lv_at hl 0 rfl) ?_
            refine lv_iload_n hx hb dX2_run_116 rfl (lv_at hl 3 rfl) ?_
            refine fx_ast hx hb hK hP hD hS 12 0 rfl rfl j1 rfl (by omega) (by decide) dX2_run_117 (fun H locs hP hD hS => ?_)
            have hP : va_P (dC, dI) classes (wM c0 c1 c2 c3 c4 c5 c6 y cI cZ n ar gl lo1 pg1 ca1 ac hw K1 F T Ln (upd Wy' j1 (mqleast K' n 0 2147483647)) Fo' Tk' Ne ++ rest) H := hP
            have hD : va_D A (wM c0 c1 c2 c3 c4 c5 c6 y cI cZ n ar gl lo1 pg1 ca1 ac hw K1 F T Ln (upd Wy' j1 (mqleast K' n 0 2147483647)) Fo' Tk' Ne ++ rest) := hD
            refine lv_aload_n hx hb dX2_run_118 rfl (lv_at hl 1 rfl) ?_
            refine va_get (D := (dC, dI)) (ci := 2) (v := .ref (y 7)) (C := RX2) (T := TX2) (N := 16) hx hb hts inlX2 hown hK hP 7 rfl rfl 14 (by decide) (hts _ km_49) (fun _ h9 => h9) rfl dX2_run_119 ?_
            refine lv_iload_n hx hb dX2_run_122 rfl (lv_at hl 0 rfl) ?_
            refine lv_iconst (v := 1) hx hb dX2_run_123 (by decide) ?_
            refine fx_zast hx hb hK hP hD hS 14 2 rfl rfl j1 rfl (by omega) (by decide) rfl dX2_run_124 (fun H locs hP hD hS => ?_)
            have hP : va_P (dC, dI) classes (wM c0 c1 c2 c3 c4 c5 c6 y cI cZ n ar gl lo1 pg1 ca1 ac hw K1 F T Ln (upd Wy' j1 (mqleast K' n 0 2147483647)) Fo' (upd Tk' j1 1) Ne ++ rest) H := hP
            have hD : va_D A (wM c0 c1 c2 c3 c4 c5 c6 y cI cZ n ar gl lo1 pg1 ca1 ac hw K1 F T Ln (upd Wy' j1 (mqleast K' n 0 2147483647)) Fo' (upd Tk' j1 1) Ne ++ rest) := hD
            have K133 : ∀ (d2 : Nat) (lo2 pg2 ca2 : Int32) (K2 Wy2 Fo2 Tk2 : Nat → Int32) (H : Heap) (locs : List Loc) (ls : Array Slot), d2 ≤ ac → mqT n ((lo2, pg2, ca2, K2), Wy2, Fo2, Tk2) → mqsweep n F T Ln j1 d2 ((lo2, pg2, ca2, K2), Wy2, Fo2, Tk2) = mqnext n F T Ln ac ((lo', pg', ca', K'), Wy', Fo', Tk') → va_P (dC, dI) classes (wM c0 c1 c2 c3 c4 c5 c6 y cI cZ n ar gl lo2 pg2 ca2 ac hw K2 F T Ln Wy2 Fo2 Tk2 Ne ++ rest) H → va_D A (wM c0 c1 c2 c3 c4 c5 c6 y cI cZ n ar gl lo2 pg2 ca2 ac hw K2 F T Ln Wy2 Fo2 Tk2 Ne ++ rest) → va_S A s.heap H locs → lv_has ls 5 [(0, .ref (y 0)), (1, .int (nI j)), (3, .int (nI j1)), (4, .int (nI d2 - 1))] → W p l e (headSpec (Cond.code yX2_run cX2_run 5 (some .int) :: wsL_law) ({ frames := 4, cells := 0, slots := 0, locals := 89 } : Room)).room s m ([.ref (y 0), .int (nI j)] : List Value).toArray below meth c H locs 0 0 (MQ below (va_Qi (S := mqX) (fun r u => (r, u) = mqrun n F T Ln ac (((lo, pg, ca, K), Wy, Fo, Tk), Ne, hw) (nI j)) (fx_B (dC, dI) classes (fq_ty cI cA cZ) A (fun u : mqX => wM c0 c1 c2 c3 c4 c5 c6 y cI cZ n ar gl u.1.1.1 u.1.1.2.1 u.1.1.2.2.1 ac u.2.2 u.1.1.2.2.2 F T Ln u.1.2.1 u.1.2.2.1 u.1.2.2.2 u.2.1 ++ rest)) A) ([.ref (y 0), .int (nI j)] : List Value).toArray s 0 0 A) (F0 m 133 ls []) := by
              intro d2
              induction d2 with
              | zero =>
                intro lo2 pg2 ca2 K2 Wy2 Fo2 Tk2 H locs ls hd2 hT2 hq2 hP hD hS hl
                rw [show nI 0 - 1 = -1 by decide] at hl
                have hz : ((lo2, pg2, ca2, K2), Wy2, Fo2, Tk2) = mqnext n F T Ln ac ((lo', pg', ca', K'), Wy', Fo', Tk') := hq2
                refine lv_iload hx hb dX2_run_133 (lv_at hl 3 rfl) ?_
                refine lv_if_lt (tgt := 174) hx hb dX2_run_135 (by decide) (fun _ => ?_) (fun h9 => absurd h9 (by decide))
                refine lv_goto (tgt := 49) hx hb dX2_run_174 (by decide) ?_
                exact ih lo2 pg2 ca2 K2 Wy2 Fo2 Tk2 H locs ls (by rw [hz]; exact hN1.1) (by rw [hz]; exact Nat.lt_of_lt_of_le hN1.2 (Nat.lt_succ_iff.mp hmu)) (by rw [← hq, mqloop_s, if_pos c_53, ← hz]) hP hD hS (lv_sub hl [0, 1] rfl)
              | succ d2 ih2 =>
                intro lo2 pg2 ca2 K2 Wy2 Fo2 Tk2 H locs ls hd2 hT2 hq2 hP hD hS hl
                rw [nI_pred] at hl
                have hd3 : d2 < ac := by omega
                obtain ⟨-, v0, hv0, eT⟩ := hnet d2 hd3
                refine lv_iload hx hb dX2_run_133 (lv_at hl 3 rfl) ?_
                refine lv_if_lt (tgt := 174) hx hb dX2_run_135 (by decide) (fun c_135 => ?_) (fun c_135 => ?_)
                · exact absurd c_135 (nI_pos (by omega))
                · refine lv_aload_n hx hb dX2_run_138 rfl (lv_at hl 0 rfl) ?_
                  refine va_get (D := (dC, dI)) (ci := 2) (v := .ref (y 2)) (C := RX2) (T := TX2) (N := 16) hx hb hts inlX2 hown hK hP 7 rfl rfl 8 (by decide) (hts _ km_43) (fun _ h9 => h9) rfl dX2_run_139 ?_
                  refine lv_iload hx hb dX2_run_142 (lv_at hl 3 rfl) ?_
                  refine fx_ald hx hb hK hP 9 0 rfl rfl d2 rfl (by omega) (by decide) dX2_run_144 ?_
                  refine lv_iload_n hx hb dX2_run_145 rfl (lv_at hl 2 rfl) ?_
                  refine lv_icmp_ne (tgt := 168) hx hb dX2_run_146 (by decide) (fun c_146 => ?_) (fun c_146 => ?_)
                  · refine lv_iinc (v := nI d2 - 1) (lv' := [(4, .int (nI d2 - 1)), (0, .ref (y 0)), (1, .int (nI j)), (3, .int (nI j1))]) hx hb dX2_run_168 hl (k := 3) rfl (mq_m1 _) (by decide) rfl (fun ls hl => ?_)
                    refine lv_goto (tgt := 133) hx hb dX2_run_171 (by decide) ?_
                    exact ih2 lo2 pg2 ca2 K2 Wy2 Fo2 Tk2 H locs ls (by omega) hT2 (by rw [← hq2, mqsweep_s, if_neg c_146]) hP hD hS (lv_sub hl [1, 2, 3, 0] rfl)
                  · refine lv_aload_n hx hb dX2_run_149 rfl (lv_at hl 0 rfl) ?_
                    refine lv_iload_n hx hb dX2_run_150 rfl (lv_at hl 2 rfl) ?_
                    refine lv_aload_n hx hb dX2_run_151 rfl (lv_at hl 0 rfl) ?_
                    refine va_get (D := (dC, dI)) (ci := 2) (v := .ref (y 3)) (C := RX2) (T := TX2) (N := 16) hx hb hts inlX2 hown hK hP 7 rfl rfl 9 (by decide) (hts _ km_44) (fun _ h9 => h9) rfl dX2_run_152 ?_
                    refine lv_iload hx hb dX2_run_155 (lv_at hl 3 rfl) ?_
                    refine fx_ald hx hb hK hP 10 0 rfl rfl d2 rfl (by omega) (by decide) dX2_run_157 ?_
                    refine lv_aload_n hx hb dX2_run_158 rfl (lv_at hl 0 rfl) ?_
                    refine va_get (D := (dC, dI)) (ci := 2) (v := .ref (y 4)) (C := RX2) (T := TX2) (N := 16) hx hb hts inlX2 hown hK hP 7 rfl rfl 10 (by decide) (hts _ km_45) (fun _ h9 => h9) rfl dX2_run_159 ?_
                    refine lv_iload hx hb dX2_run_162 (lv_at hl 3 rfl) ?_
                    refine fx_ald hx hb hK hP 11 0 rfl rfl d2 rfl (by omega) (by decide) dX2_run_164 ?_
                    rw [eT]
                    refine fx_Vv (rest := []) (sq_reach l dC dI A cI cA cZ rest c0 c1 c2 c3 c4 c5 c6 y n hn ar gl lo2 pg2 ca2 ac hw K2 F T Ln Wy2 Fo2 Tk2 Ne j1 v0 (Ln d2) hj1 hv0 hT2.1) hF (cw_RX2_91 hts ⟨Nat.le_of_ble_eq_true rfl, Nat.le_of_ble_eq_true rfl⟩) hA hS hP hK hD hN 7 2 rfl rfl rfl hl.1 rfl (Nat.le_of_ble_eq_true rfl) dX2_run_165 ⟨Nat.le_of_ble_eq_true rfl, Nat.le_of_ble_eq_true rfl⟩ (fun u9 H locs hre hP hD hS => ?_)
                    have hT3 := (mqreach_T (u := j1) (w := Ln d2) hn hv0 hT2).1
                    rw [← hre] at hT3
                    obtain ⟨⟨lo3, pg3, ca3, K3⟩, Wy3, Fo3, Tk3⟩ := u9
                    have hP : va_P (dC, dI) classes (wM c0 c1 c2 c3 c4 c5 c6 y cI cZ n ar gl lo3 pg3 ca3 ac hw K3 F T Ln Wy3 Fo3 Tk3 Ne ++ rest) H := hP
                    have hD : va_D A (wM c0 c1 c2 c3 c4 c5 c6 y cI cZ n ar gl lo3 pg3 ca3 ac hw K3 F T Ln Wy3 Fo3 Tk3 Ne ++ rest) := hD
                    refine lv_iinc (v := nI d2 - 1) (lv' := [(4, .int (nI d2 - 1)), (0, .ref (y 0)), (1, .int (nI j)), (3, .int (nI j1))]) hx hb dX2_run_168 hl (k := 3) rfl (mq_m1 _) (by decide) rfl (fun ls hl => ?_)
                    refine lv_goto (tgt := 133) hx hb dX2_run_171 (by decide) ?_
                    exact ih2 lo3 pg3 ca3 K3 Wy3 Fo3 Tk3 H locs ls (by omega) hT3 (by rw [← hq2, mqsweep_s, if_pos c_146, eT, fqn_nI (by omega), ← hre]) hP hD hS (lv_sub hl [1, 2, 3, 0] rfl)
            refine lv_aload_n hx hb dX2_run_125 rfl (lv_at hl 1 rfl) ?_
            refine va_get (D := (dC, dI)) (ci := 2) (v := .int (nI ac)) (C := RX2) (T := TX2) (N := 16) hx hb hts inlX2 hown hK hP 7 rfl rfl 7 (by decide) (hts _ km_210) (fun _ h9 => h9) rfl dX2_run_126 ?_
            refine lv_iconst (v := 1) hx hb dX2_run_129 (by decide) ?_
            refine lv_isub hx hb dX2_run_130 ?_
            refine lv_istore (lv' := [(4, .int ((nI ac) - 1)), (3, .int (nI j1)), (0, .ref (y 0)), (1, .int (nI j)), (2, .int (mqleast K' n 0 2147483647))]) hx hb dX2_run_131 hl (by decide) rfl (fun ls hl => ?_)
            exact K133 ac lo1 pg1 ca1 K1 (upd Wy' j1 (mqleast K' n 0 2147483647)) Fo' (upd Tk' j1 1) H locs ls (Nat.le_refl _) hT1 hnx hP hD hS (lv_sub hl [2, 3, 1, 0] rfl)
          have K61 : ∀ (d6 i : Nat) (a : Int32) (ls : Array Slot), d6 + i = n → (mqleast K' d6 i a = mqleast K' n 0 2147483647) → lv_has ls 5 [(0, .ref (y 0)), (1, .int (nI j)), (2, .int a), (3, .int (nI i))] → W p l e (headSpec (Cond.code yX2_run cX2_run 5 (some .int) :: wsL_law) ({ frames := 4, cells := 0, slots := 0, locals := 89 } : Room)).room s m ([.ref (y 0), .int (nI j)] : List Value).toArray below meth c H locs 0 0 (MQ below (va_Qi (S := mqX) (fun r u => (r, u) = mqrun n F T Ln ac (((lo, pg, ca, K), Wy, Fo, Tk), Ne, hw) (nI j)) (fx_B (dC, dI) classes (fq_ty cI cA cZ) A (fun u : mqX => wM c0 c1 c2 c3 c4 c5 c6 y cI cZ n ar gl u.1.1.1 u.1.1.2.1 u.1.1.2.2.1 ac u.2.2 u.1.1.2.2.2 F T Ln u.1.2.1 u.1.2.2.1 u.1.2.2.2 u.2.1 ++ rest)) A) ([.ref (y 0), .int (nI j)] : List Value).toArray s 0 0 A) (F0 m 61 ls []) := by
            intro d6
            induction d6 with
            | zero =>
              intro i a ls hdi hqa hl
              have e0 : i = n := by omega
              have hqa : a = (mqleast K' n 0 2147483647) := hqa
              subst hqa
              refine lv_iload_n hx hb dX2_run_61 rfl (lv_at hl 3 rfl) ?_
              refine lv_aload_n hx hb dX2_run_62 rfl (lv_at hl 0 rfl) ?_
              refine va_get (D := (dC, dI)) (ci := 2) (v := .int (nI n)) (C := RX2) (T := TX2) (N := 16) hx hb hts inlX2 hown hK hP 7 rfl rfl 0 (by decide) (hts _ km_51) (fun _ h9 => h9) rfl dX2_run_63 ?_
              refine lv_icmp_ge (tgt := 106) hx hb dX2_run_66 (by decide) (fun c_66 => ?_) (fun c_66 => ?_)
              · exact K106 ls (lv_sub hl [0, 1, 2] rfl)
              · exact absurd (nI_le (by omega) (by omega)) c_66
            | succ d6 ih6 =>
              intro i a ls hdi hqa hl
              have hi : i < n := by omega
              refine lv_iload_n hx hb dX2_run_61 rfl (lv_at hl 3 rfl) ?_
              refine lv_aload_n hx hb dX2_run_62 rfl (lv_at hl 0 rfl) ?_
              refine va_get (D := (dC, dI)) (ci := 2) (v := .int (nI n)) (C := RX2) (T := TX2) (N := 16) hx hb hts inlX2 hown hK hP 7 rfl rfl 0 (by decide) (hts _ km_51) (fun _ h9 => h9) rfl dX2_run_63 ?_
              refine lv_icmp_ge (tgt := 106) hx hb dX2_run_66 (by decide) (fun c_66 => ?_) (fun c_66 => ?_)
              · exact absurd c_66 (nI_ge hi hn31)
              · refine lv_aload_n hx hb dX2_run_69 rfl (lv_at hl 0 rfl) ?_
                refine va_get (D := (dC, dI)) (ci := 2) (v := .ref (y 1)) (C := RX2) (T := TX2) (N := 16) hx hb hts inlX2 hown hK hP 7 rfl rfl 3 (by decide) (hts _ km_42) (fun _ h9 => h9) rfl dX2_run_70 ?_
                refine lv_iload_n hx hb dX2_run_73 rfl (lv_at hl 3 rfl) ?_
                refine fx_ald hx hb hK hP 8 0 rfl rfl i rfl (by omega) (by decide) dX2_run_74 ?_
                refine lv_iconst (v := (-1)) hx hb dX2_run_75 (by decide) ?_
                refine lv_icmp_eq (tgt := 98) hx hb dX2_run_76 (by decide) (fun c_76 => ?_) (fun c_76 => ?_)
                · refine lv_iload_n hx hb dX2_run_98 rfl (lv_at hl 2 rfl) ?_
                  refine lv_istore_n (lv' := [(2, .int a), (0, .ref (y 0)), (1, .int (nI j)), (3, .int (nI i))]) hx hb dX2_run_99 rfl hl (by decide) rfl (fun ls hl => ?_)
                  refine lv_iinc (v := nI (i + 1)) (lv' := [(3, .int (nI (i + 1))), (2, .int a), (0, .ref (y 0)), (1, .int (nI j))]) hx hb dX2_run_100 hl (k := 3) rfl (nI_1 i) (by decide) rfl (fun ls hl => ?_)
                  refine lv_goto (tgt := 61) hx hb dX2_run_103 (by decide) ?_
                  exact ih6 (i + 1) a ls (by omega) (by rw [← hqa, mqleast_s, if_neg (fun h => h.1 c_76)]) (lv_sub hl [2, 3, 1, 0] rfl)
                · refine lv_aload_n hx hb dX2_run_79 rfl (lv_at hl 0 rfl) ?_
                  refine va_get (D := (dC, dI)) (ci := 2) (v := .ref (y 1)) (C := RX2) (T := TX2) (N := 16) hx hb hts inlX2 hown hK hP 7 rfl rfl 3 (by decide) (hts _ km_42) (fun _ h9 => h9) rfl dX2_run_80 ?_
                  refine lv_iload_n hx hb dX2_run_83 rfl (lv_at hl 3 rfl) ?_
                  refine fx_ald hx hb hK hP 8 0 rfl rfl i rfl (by omega) (by decide) dX2_run_84 ?_
                  refine lv_iload_n hx hb dX2_run_85 rfl (lv_at hl 2 rfl) ?_
                  refine lv_icmp_ge (tgt := 98) hx hb dX2_run_86 (by decide) (fun c_86 => ?_) (fun c_86 => ?_)
                  · refine lv_iload_n hx hb dX2_run_98 rfl (lv_at hl 2 rfl) ?_
                    refine lv_istore_n (lv' := [(2, .int a), (0, .ref (y 0)), (1, .int (nI j)), (3, .int (nI i))]) hx hb dX2_run_99 rfl hl (by decide) rfl (fun ls hl => ?_)
                    refine lv_iinc (v := nI (i + 1)) (lv' := [(3, .int (nI (i + 1))), (2, .int a), (0, .ref (y 0)), (1, .int (nI j))]) hx hb dX2_run_100 hl (k := 3) rfl (nI_1 i) (by decide) rfl (fun ls hl => ?_)
                    refine lv_goto (tgt := 61) hx hb dX2_run_103 (by decide) ?_
                    exact ih6 (i + 1) a ls (by omega) (by rw [← hqa, mqleast_s, if_neg (fun h => absurd h.2 (Int32.not_lt.mpr c_86))]) (lv_sub hl [2, 3, 1, 0] rfl)
                  · refine lv_aload_n hx hb dX2_run_89 rfl (lv_at hl 0 rfl) ?_
                    refine va_get (D := (dC, dI)) (ci := 2) (v := .ref (y 1)) (C := RX2) (T := TX2) (N := 16) hx hb hts inlX2 hown hK hP 7 rfl rfl 3 (by decide) (hts _ km_42) (fun _ h9 => h9) rfl dX2_run_90 ?_
                    refine lv_iload_n hx hb dX2_run_93 rfl (lv_at hl 3 rfl) ?_
                    refine fx_ald hx hb hK hP 8 0 rfl rfl i rfl (by omega) (by decide) dX2_run_94 ?_
                    refine lv_goto (tgt := 99) hx hb dX2_run_95 (by decide) ?_
                    refine lv_istore_n (lv' := [(2, .int ((K') i)), (0, .ref (y 0)), (1, .int (nI j)), (3, .int (nI i))]) hx hb dX2_run_99 rfl hl (by decide) rfl (fun ls hl => ?_)
                    refine lv_iinc (v := nI (i + 1)) (lv' := [(3, .int (nI (i + 1))), (2, .int ((K') i)), (0, .ref (y 0)), (1, .int (nI j))]) hx hb dX2_run_100 hl (k := 3) rfl (nI_1 i) (by decide) rfl (fun ls hl => ?_)
                    refine lv_goto (tgt := 61) hx hb dX2_run_103 (by decide) ?_
                    exact ih6 (i + 1) ((K') i) ls (by omega) (by rw [← hqa, mqleast_s, if_pos ⟨c_76, Int32.not_le.mp c_86⟩]) (lv_sub hl [2, 3, 1, 0] rfl)
          refine lv_ldc (v := 2147483647) hx hb hown (hts _ km_244) dX2_run_56 ?_
          refine lv_istore_n (lv' := [(2, .int 2147483647), (0, .ref (y 0)), (1, .int (nI j))]) hx hb dX2_run_58 rfl hl (by decide) rfl (fun ls hl => ?_)
          refine lv_iconst (v := 0) hx hb dX2_run_59 (by decide) ?_
          refine lv_istore_n (lv' := [(3, .int 0), (2, .int 2147483647), (0, .ref (y 0)), (1, .int (nI j))]) hx hb dX2_run_60 rfl hl (by decide) rfl (fun ls hl => ?_)
          exact K61 n 0 2147483647 ls rfl rfl (lv_sub hl [2, 3, 1, 0] rfl)
    have K16 : ∀ (d i : Nat) (H : Heap) (locs : List Loc) (ls : Array Slot), d + i = 40 → va_P (dC, dI) classes (wM c0 c1 c2 c3 c4 c5 c6 y cI cZ n ar gl 0 pg ca ac hw (fqfill 40 (-1) K) F T Ln Wy (fun j => if j < i then -1 else Fo j) (fun j => if j < i then 0 else Tk j) Ne ++ rest) H → va_D A (wM c0 c1 c2 c3 c4 c5 c6 y cI cZ n ar gl 0 pg ca ac hw (fqfill 40 (-1) K) F T Ln Wy (fun j => if j < i then -1 else Fo j) (fun j => if j < i then 0 else Tk j) Ne ++ rest) → va_S A s.heap H locs → lv_has ls 5 [(0, .ref (y 0)), (1, .int (nI j)), (2, .int (nI i))] → W p l e (headSpec (Cond.code yX2_run cX2_run 5 (some .int) :: wsL_law) ({ frames := 4, cells := 0, slots := 0, locals := 89 } : Room)).room s m ([.ref (y 0), .int (nI j)] : List Value).toArray below meth c H locs 0 0 (MQ below (va_Qi (S := mqX) (fun r u => (r, u) = mqrun n F T Ln ac (((lo, pg, ca, K), Wy, Fo, Tk), Ne, hw) (nI j)) (fx_B (dC, dI) classes (fq_ty cI cA cZ) A (fun u : mqX => wM c0 c1 c2 c3 c4 c5 c6 y cI cZ n ar gl u.1.1.1 u.1.1.2.1 u.1.1.2.2.1 ac u.2.2 u.1.1.2.2.2 F T Ln u.1.2.1 u.1.2.2.1 u.1.2.2.2 u.2.1 ++ rest)) A) ([.ref (y 0), .int (nI j)] : List Value).toArray s 0 0 A) (F0 m 16 ls []) := by
      intro d
      induction d with
      | zero =>
        intro i  H locs ls hdi  hP hD hS hl
        have e0 : i = 40 := by omega
        subst e0
        have hP : va_P (dC, dI) classes (wM c0 c1 c2 c3 c4 c5 c6 y cI cZ n ar gl 0 pg ca ac hw (fqfill 40 (-1) K) F T Ln Wy (fqfill 40 (-1) Fo) (fqfill 40 0 Tk) Ne ++ rest) H := hP
        have hD : va_D A (wM c0 c1 c2 c3 c4 c5 c6 y cI cZ n ar gl 0 pg ca ac hw (fqfill 40 (-1) K) F T Ln Wy (fqfill 40 (-1) Fo) (fqfill 40 0 Tk) Ne ++ rest) := hD
        refine lv_iload_n hx hb dX2_run_16 rfl (lv_at hl 2 rfl) ?_
        refine lv_bipush (v := 40) hx hb dX2_run_17 (by decide) ?_
        refine lv_icmp_ge (tgt := 42) hx hb dX2_run_19 (by decide) (fun c_19 => ?_) (fun c_19 => ?_)
        · refine lv_aload_n hx hb dX2_run_42 rfl (lv_at hl 0 rfl) ?_
          refine lv_iload_n hx hb dX2_run_43 rfl (lv_at hl 1 rfl) ?_
          refine lv_iconst (v := 0) hx hb dX2_run_44 (by decide) ?_
          refine fx_Vi (rest := []) (sq_push l dC dI A cI cA cZ rest c0 c1 c2 c3 c4 c5 c6 y n hn ar gl 0 pg ca ac hw (fqfill 40 (-1) K) F T Ln Wy (fqfill 40 (-1) Fo) (fqfill 40 0 Tk) Ne (nI j) 0) hF (cw_RX2_77 hts ⟨Nat.le_of_ble_eq_true rfl, Nat.le_of_ble_eq_true rfl⟩) hA hS hP hK hD hN 7 2 rfl rfl rfl hl.1 rfl (Nat.le_of_ble_eq_true rfl) dX2_run_45 ⟨Nat.le_of_ble_eq_true rfl, Nat.le_of_ble_eq_true rfl⟩ (fun r9 u9 H locs hp hP hD hS => ?_)
          have hp : (r9, u9) = mqpush n (mqclear (lo, pg, ca, K)) (nI j) 0 := hp
          have hT0 : mqT n (u9, Wy, fqfill 40 (-1) Fo, fqfill 40 0 Tk) := by have h9 := mqstart_T (W0 := Wy) (Fo := fqfill 40 (-1) Fo) (Tk := Tk) (x := nI j) (key := 0) hn (mqclear_S hn (lo, pg, ca, K)); rw [← hp] at h9; exact h9
          obtain ⟨lo1, pg1, ca1, K1⟩ := u9
          have hP : va_P (dC, dI) classes (wM c0 c1 c2 c3 c4 c5 c6 y cI cZ n ar gl lo1 pg1 ca1 ac hw K1 F T Ln Wy (fqfill 40 (-1) Fo) (fqfill 40 0 Tk) Ne ++ rest) H := hP
          have hD : va_D A (wM c0 c1 c2 c3 c4 c5 c6 y cI cZ n ar gl lo1 pg1 ca1 ac hw K1 F T Ln Wy (fqfill 40 (-1) Fo) (fqfill 40 0 Tk) Ne ++ rest) := hD
          refine lv_pop hx hb dX2_run_48 rfl ?_
          exact K49 (n + 1) lo1 pg1 ca1 K1 Wy (fqfill 40 (-1) Fo) (fqfill 40 0 Tk) H locs ls hT0 (mqmu_le _ _) (by rw [← hp]) hP hD hS (lv_sub hl [0, 1] rfl)
        · exact absurd (Int32.le_refl _) c_19
      | succ d ih =>
        intro i  H locs ls hdi  hP hD hS hl
        have hi : i < 40 := by omega
        refine lv_iload_n hx hb dX2_run_16 rfl (lv_at hl 2 rfl) ?_
        refine lv_bipush (v := 40) hx hb dX2_run_17 (by decide) ?_
        refine lv_icmp_ge (tgt := 42) hx hb dX2_run_19 (by decide) (fun c_19 => ?_) (fun c_19 => ?_)
        · exact absurd (show nI 40 ≤ nI i from c_19) (nI_ge hi (by decide))
        · refine lv_aload_n hx hb dX2_run_22 rfl (lv_at hl 0 rfl) ?_
          refine va_get (D := (dC, dI)) (ci := 2) (v := .ref (y 7)) (C := RX2) (T := TX2) (N := 16) hx hb hts inlX2 hown hK hP 7 rfl rfl 14 (by decide) (hts _ km_49) (fun _ h9 => h9) rfl dX2_run_23 ?_
          refine lv_iload_n hx hb dX2_run_26 rfl (lv_at hl 2 rfl) ?_
          refine lv_iconst (v := 0) hx hb dX2_run_27 (by decide) ?_
          refine fx_zast hx hb hK hP hD hS 14 2 rfl rfl i rfl (by omega) (by decide) rfl dX2_run_28 (fun H locs hP hD hS => ?_)
          have hP : va_P (dC, dI) classes (wM c0 c1 c2 c3 c4 c5 c6 y cI cZ n ar gl 0 pg ca ac hw (fqfill 40 (-1) K) F T Ln Wy (fun j => if j < i then -1 else Fo j) (upd (fun j => if j < i then 0 else Tk j) i 0) Ne ++ rest) H := hP
          have hD : va_D A (wM c0 c1 c2 c3 c4 c5 c6 y cI cZ n ar gl 0 pg ca ac hw (fqfill 40 (-1) K) F T Ln Wy (fun j => if j < i then -1 else Fo j) (upd (fun j => if j < i then 0 else Tk j) i 0) Ne ++ rest) := hD
          refine lv_aload_n hx hb dX2_run_29 rfl (lv_at hl 0 rfl) ?_
          refine va_get (D := (dC, dI)) (ci := 2) (v := .ref (y 6)) (C := RX2) (T := TX2) (N := 16) hx hb hts inlX2 hown hK hP 7 rfl rfl 13 (by decide) (hts _ km_47) (fun _ h9 => h9) rfl dX2_run_30 ?_
          refine lv_iload_n hx hb dX2_run_33 rfl (lv_at hl 2 rfl) ?_
          refine lv_iconst (v := (-1)) hx hb dX2_run_34 (by decide) ?_
          refine fx_ast hx hb hK hP hD hS 13 0 rfl rfl i rfl (by omega) (by decide) dX2_run_35 (fun H locs hP hD hS => ?_)
          have hP : va_P (dC, dI) classes (wM c0 c1 c2 c3 c4 c5 c6 y cI cZ n ar gl 0 pg ca ac hw (fqfill 40 (-1) K) F T Ln Wy (upd (fun j => if j < i then -1 else Fo j) i (-1)) (upd (fun j => if j < i then 0 else Tk j) i 0) Ne ++ rest) H := hP
          have hD : va_D A (wM c0 c1 c2 c3 c4 c5 c6 y cI cZ n ar gl 0 pg ca ac hw (fqfill 40 (-1) K) F T Ln Wy (upd (fun j => if j < i then -1 else Fo j) i (-1)) (upd (fun j => if j < i then 0 else Tk j) i 0) Ne ++ rest) := hD
          refine lv_iinc (v := nI (i + 1)) (lv' := [(2, .int (nI (i + 1))), (0, .ref (y 0)), (1, .int (nI j))]) hx hb dX2_run_36 hl (k := 2) rfl (nI_1 i) (by decide) rfl (fun ls hl => ?_)
          refine lv_goto (tgt := 16) hx hb dX2_run_39 (by decide) ?_
          rw [fq_fills, fq_fills] at hP hD
          exact ih (i + 1) H locs ls (by omega) hP hD hS (lv_sub hl [1, 2, 0] rfl)
    refine lv_iconst (v := 0) hx hb dX2_run_14 (by decide) ?_
    refine lv_istore_n (lv' := [(2, .int 0), (0, .ref (y 0)), (1, .int (nI j))]) hx hb dX2_run_15 rfl hl (by decide) rfl (fun ls hl => ?_)
    exact K16 40 0 H locs ls rfl (by rw [fq_fill0, fq_fill0]; exact hP) (by rw [fq_fill0, fq_fill0]; exact hD) hS (lv_sub hl [1, 2, 0] rfl)
  · refine lv_if_ne (tgt := 10) hx hb dX2_run_5 (by decide) (fun h9 => absurd h9 (by decide)) (fun _ => ?_)
    refine lv_iconst (v := (-1)) hx hb dX2_run_8 (by decide) ?_
    exact fx_iret hx hb hr hlocks hK hS dX2_run_9 (((lo, pg, ca, K), Wy, Fo, Tk), Ne, hw) (by unfold mqrun; rw [fqat_none hn31 h]) hP hD
end
section
set_option maxHeartbeats 4000000 in
set_option maxRecDepth 100000 in
theorem sq_init (l : Launch) (dC : Nat → ClassId) (dI : Nat → Nat → Nat) (A : Nat → Prop) (cI cA cZ : ClassId) (c0 c1 c2 c3 c4 c5 c6 : Nat × va_E) (h : Nat) (x0 x1 x2 : Int32)  : Met l yX2_init (Cond.code yX2_init cX2_init 4 none :: wsL_law) ({ frames := 1, cells := 8, slots := 1100, locals := 21 } : Room) (va_Pc [.ref h, .int x0, .int x1, .int x2] (fx_Pre (dC, dI) classes (fq_ty cI cA cZ) A [c0, c1, c2, c3, c4, c5, c6, (h, .inr (2, [.int 0, .int 0, .int 0, .null, .int 0, .int 0, .int 0, .int 0, .null, .null, .null, .int 0, .null, .null, .null, .null]))])) (va_Qv (S := (Nat → Nat)) (fun y => y 0 = h) (fx_B (dC, dI) classes (fq_ty cI cA cZ) A (fun y => wM c0 c1 c2 c3 c4 c5 c6 y cI cZ (fqlim x0 40) (fqlim x1 300) (fqpos x2) 0 0 0 0 0 (fqfill 40 (-1) (fun _ => 0)) (fun _ => 0) (fun _ => 0) (fun _ => 0) (fun _ => 0) (fun _ => 0) (fun _ => 0) (fun _ => 0) ++ [])) A) 8 1100 A := by
  refine Met.ofW (cc := cX2_init) (maxL := 4) (ret := none) (by decide) rfl ?_
  intro p e s m args below meth c s₁ B0 hml hv
  obtain ⟨rfl, hA, hP, hK, hD, hN⟩ := hv
  have hx := B0.exec
  have hb := B0.bytes
  have hr := B0.returns
  have hts0 := atoms_spec (ws := (Cond.code yX2_init cX2_init 4 none :: wsL_law)) B0.pre
  have hts := fun w (h : w ∈ wsL_law) => hts0 w (List.mem_cons_of_mem _ h)
  have hown : s.vm.findClass RX2 = some m.cls := findClass_of_methodNamed B0.named
  have hlocks := B0.notSynchronized
  have hF : CallFix p m c cX2_init 4 s ([.ref h, .int x0, .int x1, .int x2] : List Value).toArray wsL_law RX2 := ⟨hx, hb, hml, hown, hts⟩
  have hin : meth.name = "<init>" := (name_of_methodNamed B0.named B0.method).1
  have hS : va_S A s.heap s.heap [] := va_S.rf
  have hl := lv_entry ([.ref h, .int x0, .int x1, .int x2]) (n := 4) (Nat.le_of_ble_eq_true rfl)
  rw [lg_entry_eq]
  generalize (lg_sl ([.ref h, .int x0, .int x1, .int x2]) ++ List.replicate (4 - (lg_sl ([.ref h, .int x0, .int x1, .int x2])).length) Slot.unset).toArray = ls at hl ⊢
  have hl : lv_has ls 4 [(0, .ref h), (1, .int x0), (2, .int x1), (3, .int x2)] := hl
  have hn1 := fqlim_le x0 (hi := 40) (by decide) (by decide)
  refine lv_aload_n hx hb dX2_init_0 rfl (lv_at hl 0 rfl) ?_
  refine W.objInit hx hb hown (hts _ km_41) (hts _ km_14) (hts _ km_15) rfl (by rw [hml]; exact hl.1) rfl dX2_init_1 (Nat.le_of_ble_eq_true rfl) (Nat.le_of_ble_eq_true rfl) ?_
  refine W.eq (g2 := F0 m 4 ls []) rfl ?_
  refine lv_aload_n hx hb dX2_init_4 rfl (lv_at hl 0 rfl) ?_
  refine lv_bipush (v := 40) hx hb dX2_init_5 (by decide) ?_
  refine va_newa (atype := .int) (ty := .int) (a0 := (40, .inl (fun _ => 0))) (N' := 40) hx hb (hts _ km_26) rfl hK hP hD hS hA (fun _ => rfl) (by decide) (by decide) (by decide) (by show 0 + 1 ≤ 8; omega) (by show 0 + 40 ≤ 1100; omega) dX2_init_7 (fun q1 cT H hKT hP hD hS => ?_)
  have eT : cT = cI := fq_sameI hKT (i := 3) (j := 0) rfl rfl (fun _ h9 => by cases h9)
  rw [eT] at hP hD
  have hP : va_P (dC, dI) classes [c0, c1, c2, c3, c4, c5, c6, (h, .inr (2, [.int 0, .int 0, .int 0, .null, .int 0, .int 0, .int 0, .int 0, .null, .null, .null, .int 0, .null, .null, .null, .null])), (q1, .inl (cI, 40, .inl (fun _ => 0)))] H := hP
  have hD : va_D A [c0, c1, c2, c3, c4, c5, c6, (h, .inr (2, [.int 0, .int 0, .int 0, .null, .int 0, .int 0, .int 0, .int 0, .null, .null, .null, .int 0, .null, .null, .null, .null])), (q1, .inl (cI, 40, .inl (fun _ => 0)))] := hD
  refine W.widen (k := 1) (n := 40) (by omega) (by omega) ?_
  refine va_putF (D := (dC, dI)) (ci := 2) (v := .ref q1) (ty := .array .int) (C := RX2) (T := TX2) (N := 16) hx hb hts inlX2 tyX2 tyX2_ok nmX2 hown hK hP hD hS 7 rfl rfl 3 (by decide) (hts _ km_42) (fun _ h9 => h9) rfl hin rfl (by decide +kernel) rfl rfl (Nat.le_of_ble_eq_true rfl) dX2_init_9 (fun H locs hP hD hS => ?_)
  have hP : va_P (dC, dI) classes [c0, c1, c2, c3, c4, c5, c6, (h, .inr (2, [.int 0, .int 0, .int 0, .ref q1, .int 0, .int 0, .int 0, .int 0, .null, .null, .null, .int 0, .null, .null, .null, .null])), (q1, .inl (cI, 40, .inl (fun _ => 0)))] H := hP
  have hD : va_D A [c0, c1, c2, c3, c4, c5, c6, (h, .inr (2, [.int 0, .int 0, .int 0, .ref q1, .int 0, .int 0, .int 0, .int 0, .null, .null, .null, .int 0, .null, .null, .null, .null])), (q1, .inl (cI, 40, .inl (fun _ => 0)))] := hD
  refine lv_aload_n hx hb dX2_init_12 rfl (lv_at hl 0 rfl) ?_
  refine lv_sipush (v := 300) hx hb dX2_init_13 (by decide) ?_
  refine va_newa (atype := .int) (ty := .int) (a0 := (300, .inl (fun _ => 0))) (N' := 300) hx hb (hts _ km_26) rfl hK hP hD hS hA (fun _ => rfl) (by decide) (by decide) (by decide) (by show 1 + 1 ≤ 8; omega) (by show 40 + 300 ≤ 1100; omega) dX2_init_16 (fun q2 cT H hKT hP hD hS => ?_)
  have eT : cT = cI := fq_sameI hKT (i := 3) (j := 0) rfl rfl (fun _ h9 => by cases h9)
  rw [eT] at hP hD
  have hP : va_P (dC, dI) classes [c0, c1, c2, c3, c4, c5, c6, (h, .inr (2, [.int 0, .int 0, .int 0, .ref q1, .int 0, .int 0, .int 0, .int 0, .null, .null, .null, .int 0, .null, .null, .null, .null])), (q1, .inl (cI, 40, .inl (fun _ => 0))), (q2, .inl (cI, 300, .inl (fun _ => 0)))] H := hP
  have hD : va_D A [c0, c1, c2, c3, c4, c5, c6, (h, .inr (2, [.int 0, .int 0, .int 0, .ref q1, .int 0, .int 0, .int 0, .int 0, .null, .null, .null, .int 0, .null, .null, .null, .null])), (q1, .inl (cI, 40, .inl (fun _ => 0))), (q2, .inl (cI, 300, .inl (fun _ => 0)))] := hD
  refine W.widen (k := 2) (n := 340) (by omega) (by omega) ?_
  refine va_putF (D := (dC, dI)) (ci := 2) (v := .ref q2) (ty := .array .int) (C := RX2) (T := TX2) (N := 16) hx hb hts inlX2 tyX2 tyX2_ok nmX2 hown hK hP hD hS 7 rfl rfl 8 (by decide) (hts _ km_43) (fun _ h9 => h9) rfl hin rfl (by decide +kernel) rfl rfl (Nat.le_of_ble_eq_true rfl) dX2_init_18 (fun H locs hP hD hS => ?_)
  have hP : va_P (dC, dI) classes [c0, c1, c2, c3, c4, c5, c6, (h, .inr (2, [.int 0, .int 0, .int 0, .ref q1, .int 0, .int 0, .int 0, .int 0, .ref q2, .null, .null, .int 0, .null, .null, .null, .null])), (q1, .inl (cI, 40, .inl (fun _ => 0))), (q2, .inl (cI, 300, .inl (fun _ => 0)))] H := hP
  have hD : va_D A [c0, c1, c2, c3, c4, c5, c6, (h, .inr (2, [.int 0, .int 0, .int 0, .ref q1, .int 0, .int 0, .int 0, .int 0, .ref q2, .null, .null, .int 0, .null, .null, .null, .null])), (q1, .inl (cI, 40, .inl (fun _ => 0))), (q2, .inl (cI, 300, .inl (fun _ => 0)))] := hD
  refine lv_aload_n hx hb dX2_init_21 rfl (lv_at hl 0 rfl) ?_
  refine lv_sipush (v := 300) hx hb dX2_init_22 (by decide) ?_
  refine va_newa (atype := .int) (ty := .int) (a0 := (300, .inl (fun _ => 0))) (N' := 300) hx hb (hts _ km_26) rfl hK hP hD hS hA (fun _ => rfl) (by decide) (by decide) (by decide) (by show 2 + 1 ≤ 8; omega) (by show 340 + 300 ≤ 1100; omega) dX2_init_25 (fun q3 cT H hKT hP hD hS => ?_)
  have eT : cT = cI := fq_sameI hKT (i := 3) (j := 0) rfl rfl (fun _ h9 => by cases h9)
  rw [eT] at hP hD
  have hP : va_P (dC, dI) classes [c0, c1, c2, c3, c4, c5, c6, (h, .inr (2, [.int 0, .int 0, .int 0, .ref q1, .int 0, .int 0, .int 0, .int 0, .ref q2, .null, .null, .int 0, .null, .null, .null, .null])), (q1, .inl (cI, 40, .inl (fun _ => 0))), (q2, .inl (cI, 300, .inl (fun _ => 0))), (q3, .inl (cI, 300, .inl (fun _ => 0)))] H := hP
  have hD : va_D A [c0, c1, c2, c3, c4, c5, c6, (h, .inr (2, [.int 0, .int 0, .int 0, .ref q1, .int 0, .int 0, .int 0, .int 0, .ref q2, .null, .null, .int 0, .null, .null, .null, .null])), (q1, .inl (cI, 40, .inl (fun _ => 0))), (q2, .inl (cI, 300, .inl (fun _ => 0))), (q3, .inl (cI, 300, .inl (fun _ => 0)))] := hD
  refine W.widen (k := 3) (n := 640) (by omega) (by omega) ?_
  refine va_putF (D := (dC, dI)) (ci := 2) (v := .ref q3) (ty := .array .int) (C := RX2) (T := TX2) (N := 16) hx hb hts inlX2 tyX2 tyX2_ok nmX2 hown hK hP hD hS 7 rfl rfl 9 (by decide) (hts _ km_44) (fun _ h9 => h9) rfl hin rfl (by decide +kernel) rfl rfl (Nat.le_of_ble_eq_true rfl) dX2_init_27 (fun H locs hP hD hS => ?_)
  have hP : va_P (dC, dI) classes [c0, c1, c2, c3, c4, c5, c6, (h, .inr (2, [.int 0, .int 0, .int 0, .ref q1, .int 0, .int 0, .int 0, .int 0, .ref q2, .ref q3, .null, .int 0, .null, .null, .null, .null])), (q1, .inl (cI, 40, .inl (fun _ => 0))), (q2, .inl (cI, 300, .inl (fun _ => 0))), (q3, .inl (cI, 300, .inl (fun _ => 0)))] H := hP
  have hD : va_D A [c0, c1, c2, c3, c4, c5, c6, (h, .inr (2, [.int 0, .int 0, .int 0, .ref q1, .int 0, .int 0, .int 0, .int 0, .ref q2, .ref q3, .null, .int 0, .null, .null, .null, .null])), (q1, .inl (cI, 40, .inl (fun _ => 0))), (q2, .inl (cI, 300, .inl (fun _ => 0))), (q3, .inl (cI, 300, .inl (fun _ => 0)))] := hD
  refine lv_aload_n hx hb dX2_init_30 rfl (lv_at hl 0 rfl) ?_
  refine lv_sipush (v := 300) hx hb dX2_init_31 (by decide) ?_
  refine va_newa (atype := .int) (ty := .int) (a0 := (300, .inl (fun _ => 0))) (N' := 300) hx hb (hts _ km_26) rfl hK hP hD hS hA (fun _ => rfl) (by decide) (by decide) (by decide) (by show 3 + 1 ≤ 8; omega) (by show 640 + 300 ≤ 1100; omega) dX2_init_34 (fun q4 cT H hKT hP hD hS => ?_)
  have eT : cT = cI := fq_sameI hKT (i := 3) (j := 0) rfl rfl (fun _ h9 => by cases h9)
  rw [eT] at hP hD
  have hP : va_P (dC, dI) classes [c0, c1, c2, c3, c4, c5, c6, (h, .inr (2, [.int 0, .int 0, .int 0, .ref q1, .int 0, .int 0, .int 0, .int 0, .ref q2, .ref q3, .null, .int 0, .null, .null, .null, .null])), (q1, .inl (cI, 40, .inl (fun _ => 0))), (q2, .inl (cI, 300, .inl (fun _ => 0))), (q3, .inl (cI, 300, .inl (fun _ => 0))), (q4, .inl (cI, 300, .inl (fun _ => 0)))] H := hP
  have hD : va_D A [c0, c1, c2, c3, c4, c5, c6, (h, .inr (2, [.int 0, .int 0, .int 0, .ref q1, .int 0, .int 0, .int 0, .int 0, .ref q2, .ref q3, .null, .int 0, .null, .null, .null, .null])), (q1, .inl (cI, 40, .inl (fun _ => 0))), (q2, .inl (cI, 300, .inl (fun _ => 0))), (q3, .inl (cI, 300, .inl (fun _ => 0))), (q4, .inl (cI, 300, .inl (fun _ => 0)))] := hD
  refine W.widen (k := 4) (n := 940) (by omega) (by omega) ?_
  refine va_putF (D := (dC, dI)) (ci := 2) (v := .ref q4) (ty := .array .int) (C := RX2) (T := TX2) (N := 16) hx hb hts inlX2 tyX2 tyX2_ok nmX2 hown hK hP hD hS 7 rfl rfl 10 (by decide) (hts _ km_45) (fun _ h9 => h9) rfl hin rfl (by decide +kernel) rfl rfl (Nat.le_of_ble_eq_true rfl) dX2_init_36 (fun H locs hP hD hS => ?_)
  have hP : va_P (dC, dI) classes [c0, c1, c2, c3, c4, c5, c6, (h, .inr (2, [.int 0, .int 0, .int 0, .ref q1, .int 0, .int 0, .int 0, .int 0, .ref q2, .ref q3, .ref q4, .int 0, .null, .null, .null, .null])), (q1, .inl (cI, 40, .inl (fun _ => 0))), (q2, .inl (cI, 300, .inl (fun _ => 0))), (q3, .inl (cI, 300, .inl (fun _ => 0))), (q4, .inl (cI, 300, .inl (fun _ => 0)))] H := hP
  have hD : va_D A [c0, c1, c2, c3, c4, c5, c6, (h, .inr (2, [.int 0, .int 0, .int 0, .ref q1, .int 0, .int 0, .int 0, .int 0, .ref q2, .ref q3, .ref q4, .int 0, .null, .null, .null, .null])), (q1, .inl (cI, 40, .inl (fun _ => 0))), (q2, .inl (cI, 300, .inl (fun _ => 0))), (q3, .inl (cI, 300, .inl (fun _ => 0))), (q4, .inl (cI, 300, .inl (fun _ => 0)))] := hD
  refine lv_aload_n hx hb dX2_init_39 rfl (lv_at hl 0 rfl) ?_
  refine lv_bipush (v := 40) hx hb dX2_init_40 (by decide) ?_
  refine va_newa (atype := .int) (ty := .int) (a0 := (40, .inl (fun _ => 0))) (N' := 40) hx hb (hts _ km_26) rfl hK hP hD hS hA (fun _ => rfl) (by decide) (by decide) (by decide) (by show 4 + 1 ≤ 8; omega) (by show 940 + 40 ≤ 1100; omega) dX2_init_42 (fun q5 cT H hKT hP hD hS => ?_)
  have eT : cT = cI := fq_sameI hKT (i := 3) (j := 0) rfl rfl (fun _ h9 => by cases h9)
  rw [eT] at hP hD
  have hP : va_P (dC, dI) classes [c0, c1, c2, c3, c4, c5, c6, (h, .inr (2, [.int 0, .int 0, .int 0, .ref q1, .int 0, .int 0, .int 0, .int 0, .ref q2, .ref q3, .ref q4, .int 0, .null, .null, .null, .null])), (q1, .inl (cI, 40, .inl (fun _ => 0))), (q2, .inl (cI, 300, .inl (fun _ => 0))), (q3, .inl (cI, 300, .inl (fun _ => 0))), (q4, .inl (cI, 300, .inl (fun _ => 0))), (q5, .inl (cI, 40, .inl (fun _ => 0)))] H := hP
  have hD : va_D A [c0, c1, c2, c3, c4, c5, c6, (h, .inr (2, [.int 0, .int 0, .int 0, .ref q1, .int 0, .int 0, .int 0, .int 0, .ref q2, .ref q3, .ref q4, .int 0, .null, .null, .null, .null])), (q1, .inl (cI, 40, .inl (fun _ => 0))), (q2, .inl (cI, 300, .inl (fun _ => 0))), (q3, .inl (cI, 300, .inl (fun _ => 0))), (q4, .inl (cI, 300, .inl (fun _ => 0))), (q5, .inl (cI, 40, .inl (fun _ => 0)))] := hD
  refine W.widen (k := 5) (n := 980) (by omega) (by omega) ?_
  refine va_putF (D := (dC, dI)) (ci := 2) (v := .ref q5) (ty := .array .int) (C := RX2) (T := TX2) (N := 16) hx hb hts inlX2 tyX2 tyX2_ok nmX2 hown hK hP hD hS 7 rfl rfl 12 (by decide) (hts _ km_46) (fun _ h9 => h9) rfl hin rfl (by decide +kernel) rfl rfl (Nat.le_of_ble_eq_true rfl) dX2_init_44 (fun H locs hP hD hS => ?_)
  have hP : va_P (dC, dI) classes [c0, c1, c2, c3, c4, c5, c6, (h, .inr (2, [.int 0, .int 0, .int 0, .ref q1, .int 0, .int 0, .int 0, .int 0, .ref q2, .ref q3, .ref q4, .int 0, .ref q5, .null, .null, .null])), (q1, .inl (cI, 40, .inl (fun _ => 0))), (q2, .inl (cI, 300, .inl (fun _ => 0))), (q3, .inl (cI, 300, .inl (fun _ => 0))), (q4, .inl (cI, 300, .inl (fun _ => 0))), (q5, .inl (cI, 40, .inl (fun _ => 0)))] H := hP
  have hD : va_D A [c0, c1, c2, c3, c4, c5, c6, (h, .inr (2, [.int 0, .int 0, .int 0, .ref q1, .int 0, .int 0, .int 0, .int 0, .ref q2, .ref q3, .ref q4, .int 0, .ref q5, .null, .null, .null])), (q1, .inl (cI, 40, .inl (fun _ => 0))), (q2, .inl (cI, 300, .inl (fun _ => 0))), (q3, .inl (cI, 300, .inl (fun _ => 0))), (q4, .inl (cI, 300, .inl (fun _ => 0))), (q5, .inl (cI, 40, .inl (fun _ => 0)))] := hD
  refine lv_aload_n hx hb dX2_init_47 rfl (lv_at hl 0 rfl) ?_
  refine lv_bipush (v := 40) hx hb dX2_init_48 (by decide) ?_
  refine va_newa (atype := .int) (ty := .int) (a0 := (40, .inl (fun _ => 0))) (N' := 40) hx hb (hts _ km_26) rfl hK hP hD hS hA (fun _ => rfl) (by decide) (by decide) (by decide) (by show 5 + 1 ≤ 8; omega) (by show 980 + 40 ≤ 1100; omega) dX2_init_50 (fun q6 cT H hKT hP hD hS => ?_)
  have eT : cT = cI := fq_sameI hKT (i := 3) (j := 0) rfl rfl (fun _ h9 => by cases h9)
  rw [eT] at hP hD
  have hP : va_P (dC, dI) classes [c0, c1, c2, c3, c4, c5, c6, (h, .inr (2, [.int 0, .int 0, .int 0, .ref q1, .int 0, .int 0, .int 0, .int 0, .ref q2, .ref q3, .ref q4, .int 0, .ref q5, .null, .null, .null])), (q1, .inl (cI, 40, .inl (fun _ => 0))), (q2, .inl (cI, 300, .inl (fun _ => 0))), (q3, .inl (cI, 300, .inl (fun _ => 0))), (q4, .inl (cI, 300, .inl (fun _ => 0))), (q5, .inl (cI, 40, .inl (fun _ => 0))), (q6, .inl (cI, 40, .inl (fun _ => 0)))] H := hP
  have hD : va_D A [c0, c1, c2, c3, c4, c5, c6, (h, .inr (2, [.int 0, .int 0, .int 0, .ref q1, .int 0, .int 0, .int 0, .int 0, .ref q2, .ref q3, .ref q4, .int 0, .ref q5, .null, .null, .null])), (q1, .inl (cI, 40, .inl (fun _ => 0))), (q2, .inl (cI, 300, .inl (fun _ => 0))), (q3, .inl (cI, 300, .inl (fun _ => 0))), (q4, .inl (cI, 300, .inl (fun _ => 0))), (q5, .inl (cI, 40, .inl (fun _ => 0))), (q6, .inl (cI, 40, .inl (fun _ => 0)))] := hD
  refine W.widen (k := 6) (n := 1020) (by omega) (by omega) ?_
  refine va_putF (D := (dC, dI)) (ci := 2) (v := .ref q6) (ty := .array .int) (C := RX2) (T := TX2) (N := 16) hx hb hts inlX2 tyX2 tyX2_ok nmX2 hown hK hP hD hS 7 rfl rfl 13 (by decide) (hts _ km_47) (fun _ h9 => h9) rfl hin rfl (by decide +kernel) rfl rfl (Nat.le_of_ble_eq_true rfl) dX2_init_52 (fun H locs hP hD hS => ?_)
  have hP : va_P (dC, dI) classes [c0, c1, c2, c3, c4, c5, c6, (h, .inr (2, [.int 0, .int 0, .int 0, .ref q1, .int 0, .int 0, .int 0, .int 0, .ref q2, .ref q3, .ref q4, .int 0, .ref q5, .ref q6, .null, .null])), (q1, .inl (cI, 40, .inl (fun _ => 0))), (q2, .inl (cI, 300, .inl (fun _ => 0))), (q3, .inl (cI, 300, .inl (fun _ => 0))), (q4, .inl (cI, 300, .inl (fun _ => 0))), (q5, .inl (cI, 40, .inl (fun _ => 0))), (q6, .inl (cI, 40, .inl (fun _ => 0)))] H := hP
  have hD : va_D A [c0, c1, c2, c3, c4, c5, c6, (h, .inr (2, [.int 0, .int 0, .int 0, .ref q1, .int 0, .int 0, .int 0, .int 0, .ref q2, .ref q3, .ref q4, .int 0, .ref q5, .ref q6, .null, .null])), (q1, .inl (cI, 40, .inl (fun _ => 0))), (q2, .inl (cI, 300, .inl (fun _ => 0))), (q3, .inl (cI, 300, .inl (fun _ => 0))), (q4, .inl (cI, 300, .inl (fun _ => 0))), (q5, .inl (cI, 40, .inl (fun _ => 0))), (q6, .inl (cI, 40, .inl (fun _ => 0)))] := hD
  refine lv_aload_n hx hb dX2_init_55 rfl (lv_at hl 0 rfl) ?_
  refine lv_bipush (v := 40) hx hb dX2_init_56 (by decide) ?_
  refine va_newa (atype := .boolean) (ty := .boolean) (a0 := (40, .inl (fun _ => 0))) (N' := 40) hx hb (hts _ km_48) rfl hK hP hD hS hA (fun _ => rfl) (by decide) (by decide) (by decide) (by show 6 + 1 ≤ 8; omega) (by show 1020 + 40 ≤ 1100; omega) dX2_init_58 (fun q7 cT H hKT hP hD hS => ?_)
  have eT : cT = cZ := fq_sameI hKT (i := 3) (j := 2) rfl rfl (fun _ h9 => by cases h9)
  rw [eT] at hP hD
  have hP : va_P (dC, dI) classes [c0, c1, c2, c3, c4, c5, c6, (h, .inr (2, [.int 0, .int 0, .int 0, .ref q1, .int 0, .int 0, .int 0, .int 0, .ref q2, .ref q3, .ref q4, .int 0, .ref q5, .ref q6, .null, .null])), (q1, .inl (cI, 40, .inl (fun _ => 0))), (q2, .inl (cI, 300, .inl (fun _ => 0))), (q3, .inl (cI, 300, .inl (fun _ => 0))), (q4, .inl (cI, 300, .inl (fun _ => 0))), (q5, .inl (cI, 40, .inl (fun _ => 0))), (q6, .inl (cI, 40, .inl (fun _ => 0))), (q7, .inl (cZ, 40, .inl (fun _ => 0)))] H := hP
  have hD : va_D A [c0, c1, c2, c3, c4, c5, c6, (h, .inr (2, [.int 0, .int 0, .int 0, .ref q1, .int 0, .int 0, .int 0, .int 0, .ref q2, .ref q3, .ref q4, .int 0, .ref q5, .ref q6, .null, .null])), (q1, .inl (cI, 40, .inl (fun _ => 0))), (q2, .inl (cI, 300, .inl (fun _ => 0))), (q3, .inl (cI, 300, .inl (fun _ => 0))), (q4, .inl (cI, 300, .inl (fun _ => 0))), (q5, .inl (cI, 40, .inl (fun _ => 0))), (q6, .inl (cI, 40, .inl (fun _ => 0))), (q7, .inl (cZ, 40, .inl (fun _ => 0)))] := hD
  refine W.widen (k := 7) (n := 1060) (by omega) (by omega) ?_
  refine va_putF (D := (dC, dI)) (ci := 2) (v := .ref q7) (ty := .array .boolean) (C := RX2) (T := TX2) (N := 16) hx hb hts inlX2 tyX2 tyX2_ok nmX2 hown hK hP hD hS 7 rfl rfl 14 (by decide) (hts _ km_49) (fun _ h9 => h9) rfl hin rfl (by decide +kernel) rfl rfl (Nat.le_of_ble_eq_true rfl) dX2_init_60 (fun H locs hP hD hS => ?_)
  have hP : va_P (dC, dI) classes [c0, c1, c2, c3, c4, c5, c6, (h, .inr (2, [.int 0, .int 0, .int 0, .ref q1, .int 0, .int 0, .int 0, .int 0, .ref q2, .ref q3, .ref q4, .int 0, .ref q5, .ref q6, .ref q7, .null])), (q1, .inl (cI, 40, .inl (fun _ => 0))), (q2, .inl (cI, 300, .inl (fun _ => 0))), (q3, .inl (cI, 300, .inl (fun _ => 0))), (q4, .inl (cI, 300, .inl (fun _ => 0))), (q5, .inl (cI, 40, .inl (fun _ => 0))), (q6, .inl (cI, 40, .inl (fun _ => 0))), (q7, .inl (cZ, 40, .inl (fun _ => 0)))] H := hP
  have hD : va_D A [c0, c1, c2, c3, c4, c5, c6, (h, .inr (2, [.int 0, .int 0, .int 0, .ref q1, .int 0, .int 0, .int 0, .int 0, .ref q2, .ref q3, .ref q4, .int 0, .ref q5, .ref q6, .ref q7, .null])), (q1, .inl (cI, 40, .inl (fun _ => 0))), (q2, .inl (cI, 300, .inl (fun _ => 0))), (q3, .inl (cI, 300, .inl (fun _ => 0))), (q4, .inl (cI, 300, .inl (fun _ => 0))), (q5, .inl (cI, 40, .inl (fun _ => 0))), (q6, .inl (cI, 40, .inl (fun _ => 0))), (q7, .inl (cZ, 40, .inl (fun _ => 0)))] := hD
  refine lv_aload_n hx hb dX2_init_63 rfl (lv_at hl 0 rfl) ?_
  refine lv_bipush (v := 40) hx hb dX2_init_64 (by decide) ?_
  refine va_newa (atype := .boolean) (ty := .boolean) (a0 := (40, .inl (fun _ => 0))) (N' := 40) hx hb (hts _ km_48) rfl hK hP hD hS hA (fun _ => rfl) (by decide) (by decide) (by decide) (by show 7 + 1 ≤ 8; omega) (by show 1060 + 40 ≤ 1100; omega) dX2_init_66 (fun q8 cT H hKT hP hD hS => ?_)
  have eT : cT = cZ := fq_sameI hKT (i := 3) (j := 2) rfl rfl (fun _ h9 => by cases h9)
  rw [eT] at hP hD
  have hP : va_P (dC, dI) classes [c0, c1, c2, c3, c4, c5, c6, (h, .inr (2, [.int 0, .int 0, .int 0, .ref q1, .int 0, .int 0, .int 0, .int 0, .ref q2, .ref q3, .ref q4, .int 0, .ref q5, .ref q6, .ref q7, .null])), (q1, .inl (cI, 40, .inl (fun _ => 0))), (q2, .inl (cI, 300, .inl (fun _ => 0))), (q3, .inl (cI, 300, .inl (fun _ => 0))), (q4, .inl (cI, 300, .inl (fun _ => 0))), (q5, .inl (cI, 40, .inl (fun _ => 0))), (q6, .inl (cI, 40, .inl (fun _ => 0))), (q7, .inl (cZ, 40, .inl (fun _ => 0))), (q8, .inl (cZ, 40, .inl (fun _ => 0)))] H := hP
  have hD : va_D A [c0, c1, c2, c3, c4, c5, c6, (h, .inr (2, [.int 0, .int 0, .int 0, .ref q1, .int 0, .int 0, .int 0, .int 0, .ref q2, .ref q3, .ref q4, .int 0, .ref q5, .ref q6, .ref q7, .null])), (q1, .inl (cI, 40, .inl (fun _ => 0))), (q2, .inl (cI, 300, .inl (fun _ => 0))), (q3, .inl (cI, 300, .inl (fun _ => 0))), (q4, .inl (cI, 300, .inl (fun _ => 0))), (q5, .inl (cI, 40, .inl (fun _ => 0))), (q6, .inl (cI, 40, .inl (fun _ => 0))), (q7, .inl (cZ, 40, .inl (fun _ => 0))), (q8, .inl (cZ, 40, .inl (fun _ => 0)))] := hD
  refine W.widen (k := 8) (n := 1100) (by omega) (by omega) ?_
  refine va_putF (D := (dC, dI)) (ci := 2) (v := .ref q8) (ty := .array .boolean) (C := RX2) (T := TX2) (N := 16) hx hb hts inlX2 tyX2 tyX2_ok nmX2 hown hK hP hD hS 7 rfl rfl 15 (by decide) (hts _ km_50) (fun _ h9 => h9) rfl hin rfl (by decide +kernel) rfl rfl (Nat.le_of_ble_eq_true rfl) dX2_init_68 (fun H locs hP hD hS => ?_)
  have hP : va_P (dC, dI) classes [c0, c1, c2, c3, c4, c5, c6, (h, .inr (2, [.int 0, .int 0, .int 0, .ref q1, .int 0, .int 0, .int 0, .int 0, .ref q2, .ref q3, .ref q4, .int 0, .ref q5, .ref q6, .ref q7, .ref q8])), (q1, .inl (cI, 40, .inl (fun _ => 0))), (q2, .inl (cI, 300, .inl (fun _ => 0))), (q3, .inl (cI, 300, .inl (fun _ => 0))), (q4, .inl (cI, 300, .inl (fun _ => 0))), (q5, .inl (cI, 40, .inl (fun _ => 0))), (q6, .inl (cI, 40, .inl (fun _ => 0))), (q7, .inl (cZ, 40, .inl (fun _ => 0))), (q8, .inl (cZ, 40, .inl (fun _ => 0)))] H := hP
  have hD : va_D A [c0, c1, c2, c3, c4, c5, c6, (h, .inr (2, [.int 0, .int 0, .int 0, .ref q1, .int 0, .int 0, .int 0, .int 0, .ref q2, .ref q3, .ref q4, .int 0, .ref q5, .ref q6, .ref q7, .ref q8])), (q1, .inl (cI, 40, .inl (fun _ => 0))), (q2, .inl (cI, 300, .inl (fun _ => 0))), (q3, .inl (cI, 300, .inl (fun _ => 0))), (q4, .inl (cI, 300, .inl (fun _ => 0))), (q5, .inl (cI, 40, .inl (fun _ => 0))), (q6, .inl (cI, 40, .inl (fun _ => 0))), (q7, .inl (cZ, 40, .inl (fun _ => 0))), (q8, .inl (cZ, 40, .inl (fun _ => 0)))] := hD
  have K136 : ∀ (H : Heap) (locs : List Loc) (ls : Array Slot), va_P (dC, dI) classes [c0, c1, c2, c3, c4, c5, c6, (h, .inr (2, [.int (nI (fqlim x0 40)), .int (nI (fqlim x1 300)), .int (fqpos x2), .ref q1, .int 0, .int 0, .int 0, .int 0, .ref q2, .ref q3, .ref q4, .int 0, .ref q5, .ref q6, .ref q7, .ref q8])), (q1, .inl (cI, 40, .inl (fun _ => 0))), (q2, .inl (cI, 300, .inl (fun _ => 0))), (q3, .inl (cI, 300, .inl (fun _ => 0))), (q4, .inl (cI, 300, .inl (fun _ => 0))), (q5, .inl (cI, 40, .inl (fun _ => 0))), (q6, .inl (cI, 40, .inl (fun _ => 0))), (q7, .inl (cZ, 40, .inl (fun _ => 0))), (q8, .inl (cZ, 40, .inl (fun _ => 0)))] H → va_D A [c0, c1, c2, c3, c4, c5, c6, (h, .inr (2, [.int (nI (fqlim x0 40)), .int (nI (fqlim x1 300)), .int (fqpos x2), .ref q1, .int 0, .int 0, .int 0, .int 0, .ref q2, .ref q3, .ref q4, .int 0, .ref q5, .ref q6, .ref q7, .ref q8])), (q1, .inl (cI, 40, .inl (fun _ => 0))), (q2, .inl (cI, 300, .inl (fun _ => 0))), (q3, .inl (cI, 300, .inl (fun _ => 0))), (q4, .inl (cI, 300, .inl (fun _ => 0))), (q5, .inl (cI, 40, .inl (fun _ => 0))), (q6, .inl (cI, 40, .inl (fun _ => 0))), (q7, .inl (cZ, 40, .inl (fun _ => 0))), (q8, .inl (cZ, 40, .inl (fun _ => 0)))] → va_S A s.heap H locs → lv_has ls 4 [(0, .ref h), (1, .int x0), (2, .int x1), (3, .int x2)] → W p l e (headSpec (Cond.code yX2_init cX2_init 4 none :: wsL_law) ({ frames := 1, cells := 8, slots := 1100, locals := 21 } : Room)).room s m ([.ref h, .int x0, .int x1, .int x2] : List Value).toArray below meth c H locs 8 1100 (MQ below (va_Qv (S := (Nat → Nat)) (fun y => y 0 = h) (fx_B (dC, dI) classes (fq_ty cI cA cZ) A (fun y => wM c0 c1 c2 c3 c4 c5 c6 y cI cZ (fqlim x0 40) (fqlim x1 300) (fqpos x2) 0 0 0 0 0 (fqfill 40 (-1) (fun _ => 0)) (fun _ => 0) (fun _ => 0) (fun _ => 0) (fun _ => 0) (fun _ => 0) (fun _ => 0) (fun _ => 0) ++ [])) A) ([.ref h, .int x0, .int x1, .int x2] : List Value).toArray s 8 1100 A) (F0 m 136 ls []) := by
    intro H locs ls hP hD hS hl
    refine lv_aload_n hx hb dX2_init_136 rfl (lv_at hl 0 rfl) ?_
    refine fx_Vv (rest := []) (sq_clear l dC dI A cI cA cZ [] c0 c1 c2 c3 c4 c5 c6 (fun k => match k with | 0 => h | 1 => q1 | 2 => q2 | 3 => q3 | 4 => q4 | 5 => q5 | 6 => q6 | 7 => q7 | _ => q8) (fqlim x0 40) hn1.2 (fqlim x1 300) (fqpos x2) 0 0 0 0 0 (fun _ => 0) (fun _ => 0) (fun _ => 0) (fun _ => 0) (fun _ => 0) (fun _ => 0) (fun _ => 0) (fun _ => 0)) hF (cw_RX2_45 hts ⟨Nat.le_of_ble_eq_true rfl, Nat.le_of_ble_eq_true rfl⟩) hA hS hP hK hD hN 7 2 rfl rfl rfl hl.1 rfl (Nat.le_of_ble_eq_true rfl) dX2_init_137 ⟨Nat.le_of_ble_eq_true rfl, Nat.le_of_ble_eq_true rfl⟩ (fun u H locs h9 hP hD hS => ?_)
    subst h9
    exact fx_vret hx hb hr hlocks hK hS dX2_init_140 (fun k => match k with | 0 => h | 1 => q1 | 2 => q2 | 3 => q3 | 4 => q4 | 5 => q5 | 6 => q6 | 7 => q7 | _ => q8) rfl hP hD
  have K133 : ∀ (H : Heap) (locs : List Loc) (ls : Array Slot), va_P (dC, dI) classes [c0, c1, c2, c3, c4, c5, c6, (h, .inr (2, [.int (nI (fqlim x0 40)), .int (nI (fqlim x1 300)), .int 0, .ref q1, .int 0, .int 0, .int 0, .int 0, .ref q2, .ref q3, .ref q4, .int 0, .ref q5, .ref q6, .ref q7, .ref q8])), (q1, .inl (cI, 40, .inl (fun _ => 0))), (q2, .inl (cI, 300, .inl (fun _ => 0))), (q3, .inl (cI, 300, .inl (fun _ => 0))), (q4, .inl (cI, 300, .inl (fun _ => 0))), (q5, .inl (cI, 40, .inl (fun _ => 0))), (q6, .inl (cI, 40, .inl (fun _ => 0))), (q7, .inl (cZ, 40, .inl (fun _ => 0))), (q8, .inl (cZ, 40, .inl (fun _ => 0)))] H → va_D A [c0, c1, c2, c3, c4, c5, c6, (h, .inr (2, [.int (nI (fqlim x0 40)), .int (nI (fqlim x1 300)), .int 0, .ref q1, .int 0, .int 0, .int 0, .int 0, .ref q2, .ref q3, .ref q4, .int 0, .ref q5, .ref q6, .ref q7, .ref q8])), (q1, .inl (cI, 40, .inl (fun _ => 0))), (q2, .inl (cI, 300, .inl (fun _ => 0))), (q3, .inl (cI, 300, .inl (fun _ => 0))), (q4, .inl (cI, 300, .inl (fun _ => 0))), (q5, .inl (cI, 40, .inl (fun _ => 0))), (q6, .inl (cI, 40, .inl (fun _ => 0))), (q7, .inl (cZ, 40, .inl (fun _ => 0))), (q8, .inl (cZ, 40, .inl (fun _ => 0)))] → va_S A s.heap H locs → lv_has ls 4 [(0, .ref h), (1, .int x0), (2, .int x1), (3, .int x2)] → W p l e (headSpec (Cond.code yX2_init cX2_init 4 none :: wsL_law) ({ frames := 1, cells := 8, slots := 1100, locals := 21 } : Room)).room s m ([.ref h, .int x0, .int x1, .int x2] : List Value).toArray below meth c H locs 8 1100 (MQ below (va_Qv (S := (Nat → Nat)) (fun y => y 0 = h) (fx_B (dC, dI) classes (fq_ty cI cA cZ) A (fun y => wM c0 c1 c2 c3 c4 c5 c6 y cI cZ (fqlim x0 40) (fqlim x1 300) (fqpos x2) 0 0 0 0 0 (fqfill 40 (-1) (fun _ => 0)) (fun _ => 0) (fun _ => 0) (fun _ => 0) (fun _ => 0) (fun _ => 0) (fun _ => 0) (fun _ => 0) ++ [])) A) ([.ref h, .int x0, .int x1, .int x2] : List Value).toArray s 8 1100 A) (F0 m 133 ls [.int (fqpos x2), .ref h]) := by
    intro H locs ls hP hD hS hl
    refine va_putF (D := (dC, dI)) (ci := 2) (v := .int (fqpos x2)) (ty := .int) (C := RX2) (T := TX2) (N := 16) hx hb hts inlX2 tyX2 tyX2_ok nmX2 hown hK hP hD hS 7 rfl rfl 2 (by decide) (hts _ km_53) (fun _ h9 => h9) rfl hin rfl (by decide +kernel) rfl rfl (Nat.le_of_ble_eq_true rfl) dX2_init_133 (fun H locs hP hD hS => ?_)
    have hP : va_P (dC, dI) classes [c0, c1, c2, c3, c4, c5, c6, (h, .inr (2, [.int (nI (fqlim x0 40)), .int (nI (fqlim x1 300)), .int (fqpos x2), .ref q1, .int 0, .int 0, .int 0, .int 0, .ref q2, .ref q3, .ref q4, .int 0, .ref q5, .ref q6, .ref q7, .ref q8])), (q1, .inl (cI, 40, .inl (fun _ => 0))), (q2, .inl (cI, 300, .inl (fun _ => 0))), (q3, .inl (cI, 300, .inl (fun _ => 0))), (q4, .inl (cI, 300, .inl (fun _ => 0))), (q5, .inl (cI, 40, .inl (fun _ => 0))), (q6, .inl (cI, 40, .inl (fun _ => 0))), (q7, .inl (cZ, 40, .inl (fun _ => 0))), (q8, .inl (cZ, 40, .inl (fun _ => 0)))] H := hP
    have hD : va_D A [c0, c1, c2, c3, c4, c5, c6, (h, .inr (2, [.int (nI (fqlim x0 40)), .int (nI (fqlim x1 300)), .int (fqpos x2), .ref q1, .int 0, .int 0, .int 0, .int 0, .ref q2, .ref q3, .ref q4, .int 0, .ref q5, .ref q6, .ref q7, .ref q8])), (q1, .inl (cI, 40, .inl (fun _ => 0))), (q2, .inl (cI, 300, .inl (fun _ => 0))), (q3, .inl (cI, 300, .inl (fun _ => 0))), (q4, .inl (cI, 300, .inl (fun _ => 0))), (q5, .inl (cI, 40, .inl (fun _ => 0))), (q6, .inl (cI, 40, .inl (fun _ => 0))), (q7, .inl (cZ, 40, .inl (fun _ => 0))), (q8, .inl (cZ, 40, .inl (fun _ => 0)))] := hD
    exact K136 H locs ls hP hD hS hl
  have K120 : ∀ (H : Heap) (locs : List Loc) (ls : Array Slot), va_P (dC, dI) classes [c0, c1, c2, c3, c4, c5, c6, (h, .inr (2, [.int (nI (fqlim x0 40)), .int 0, .int 0, .ref q1, .int 0, .int 0, .int 0, .int 0, .ref q2, .ref q3, .ref q4, .int 0, .ref q5, .ref q6, .ref q7, .ref q8])), (q1, .inl (cI, 40, .inl (fun _ => 0))), (q2, .inl (cI, 300, .inl (fun _ => 0))), (q3, .inl (cI, 300, .inl (fun _ => 0))), (q4, .inl (cI, 300, .inl (fun _ => 0))), (q5, .inl (cI, 40, .inl (fun _ => 0))), (q6, .inl (cI, 40, .inl (fun _ => 0))), (q7, .inl (cZ, 40, .inl (fun _ => 0))), (q8, .inl (cZ, 40, .inl (fun _ => 0)))] H → va_D A [c0, c1, c2, c3, c4, c5, c6, (h, .inr (2, [.int (nI (fqlim x0 40)), .int 0, .int 0, .ref q1, .int 0, .int 0, .int 0, .int 0, .ref q2, .ref q3, .ref q4, .int 0, .ref q5, .ref q6, .ref q7, .ref q8])), (q1, .inl (cI, 40, .inl (fun _ => 0))), (q2, .inl (cI, 300, .inl (fun _ => 0))), (q3, .inl (cI, 300, .inl (fun _ => 0))), (q4, .inl (cI, 300, .inl (fun _ => 0))), (q5, .inl (cI, 40, .inl (fun _ => 0))), (q6, .inl (cI, 40, .inl (fun _ => 0))), (q7, .inl (cZ, 40, .inl (fun _ => 0))), (q8, .inl (cZ, 40, .inl (fun _ => 0)))] → va_S A s.heap H locs → lv_has ls 4 [(0, .ref h), (1, .int x0), (2, .int x1), (3, .int x2)] → W p l e (headSpec (Cond.code yX2_init cX2_init 4 none :: wsL_law) ({ frames := 1, cells := 8, slots := 1100, locals := 21 } : Room)).room s m ([.ref h, .int x0, .int x1, .int x2] : List Value).toArray below meth c H locs 8 1100 (MQ below (va_Qv (S := (Nat → Nat)) (fun y => y 0 = h) (fx_B (dC, dI) classes (fq_ty cI cA cZ) A (fun y => wM c0 c1 c2 c3 c4 c5 c6 y cI cZ (fqlim x0 40) (fqlim x1 300) (fqpos x2) 0 0 0 0 0 (fqfill 40 (-1) (fun _ => 0)) (fun _ => 0) (fun _ => 0) (fun _ => 0) (fun _ => 0) (fun _ => 0) (fun _ => 0) (fun _ => 0) ++ [])) A) ([.ref h, .int x0, .int x1, .int x2] : List Value).toArray s 8 1100 A) (F0 m 120 ls [.int (nI (fqlim x1 300)), .ref h]) := by
    intro H locs ls hP hD hS hl
    refine va_putF (D := (dC, dI)) (ci := 2) (v := .int (nI (fqlim x1 300))) (ty := .int) (C := RX2) (T := TX2) (N := 16) hx hb hts inlX2 tyX2 tyX2_ok nmX2 hown hK hP hD hS 7 rfl rfl 1 (by decide) (hts _ km_52) (fun _ h9 => h9) rfl hin rfl (by decide +kernel) rfl rfl (Nat.le_of_ble_eq_true rfl) dX2_init_120 (fun H locs hP hD hS => ?_)
    have hP : va_P (dC, dI) classes [c0, c1, c2, c3, c4, c5, c6, (h, .inr (2, [.int (nI (fqlim x0 40)), .int (nI (fqlim x1 300)), .int 0, .ref q1, .int 0, .int 0, .int 0, .int 0, .ref q2, .ref q3, .ref q4, .int 0, .ref q5, .ref q6, .ref q7, .ref q8])), (q1, .inl (cI, 40, .inl (fun _ => 0))), (q2, .inl (cI, 300, .inl (fun _ => 0))), (q3, .inl (cI, 300, .inl (fun _ => 0))), (q4, .inl (cI, 300, .inl (fun _ => 0))), (q5, .inl (cI, 40, .inl (fun _ => 0))), (q6, .inl (cI, 40, .inl (fun _ => 0))), (q7, .inl (cZ, 40, .inl (fun _ => 0))), (q8, .inl (cZ, 40, .inl (fun _ => 0)))] H := hP
    have hD : va_D A [c0, c1, c2, c3, c4, c5, c6, (h, .inr (2, [.int (nI (fqlim x0 40)), .int (nI (fqlim x1 300)), .int 0, .ref q1, .int 0, .int 0, .int 0, .int 0, .ref q2, .ref q3, .ref q4, .int 0, .ref q5, .ref q6, .ref q7, .ref q8])), (q1, .inl (cI, 40, .inl (fun _ => 0))), (q2, .inl (cI, 300, .inl (fun _ => 0))), (q3, .inl (cI, 300, .inl (fun _ => 0))), (q4, .inl (cI, 300, .inl (fun _ => 0))), (q5, .inl (cI, 40, .inl (fun _ => 0))), (q6, .inl (cI, 40, .inl (fun _ => 0))), (q7, .inl (cZ, 40, .inl (fun _ => 0))), (q8, .inl (cZ, 40, .inl (fun _ => 0)))] := hD
    refine lv_aload_n hx hb dX2_init_123 rfl (lv_at hl 0 rfl) ?_
    refine lv_iload_n hx hb dX2_init_124 rfl (lv_at hl 3 rfl) ?_
    refine lv_if_ge (tgt := 132) hx hb dX2_init_125 (by decide) (fun c9 => ?_) (fun c9 => ?_)
    · refine lv_iload_n hx hb dX2_init_132 rfl (lv_at hl 3 rfl) ?_
      refine fx_is (fqpos_pos c9) ?_
      exact K133 H locs ls hP hD hS hl
    · refine lv_iconst (v := 0) hx hb dX2_init_128 (by decide) ?_
      refine lv_goto (tgt := 133) hx hb dX2_init_129 (by decide) ?_
      refine fx_is (fqpos_neg c9) ?_
      exact K133 H locs ls hP hD hS hl
  have K93 : ∀ (H : Heap) (locs : List Loc) (ls : Array Slot), va_P (dC, dI) classes [c0, c1, c2, c3, c4, c5, c6, (h, .inr (2, [.int 0, .int 0, .int 0, .ref q1, .int 0, .int 0, .int 0, .int 0, .ref q2, .ref q3, .ref q4, .int 0, .ref q5, .ref q6, .ref q7, .ref q8])), (q1, .inl (cI, 40, .inl (fun _ => 0))), (q2, .inl (cI, 300, .inl (fun _ => 0))), (q3, .inl (cI, 300, .inl (fun _ => 0))), (q4, .inl (cI, 300, .inl (fun _ => 0))), (q5, .inl (cI, 40, .inl (fun _ => 0))), (q6, .inl (cI, 40, .inl (fun _ => 0))), (q7, .inl (cZ, 40, .inl (fun _ => 0))), (q8, .inl (cZ, 40, .inl (fun _ => 0)))] H → va_D A [c0, c1, c2, c3, c4, c5, c6, (h, .inr (2, [.int 0, .int 0, .int 0, .ref q1, .int 0, .int 0, .int 0, .int 0, .ref q2, .ref q3, .ref q4, .int 0, .ref q5, .ref q6, .ref q7, .ref q8])), (q1, .inl (cI, 40, .inl (fun _ => 0))), (q2, .inl (cI, 300, .inl (fun _ => 0))), (q3, .inl (cI, 300, .inl (fun _ => 0))), (q4, .inl (cI, 300, .inl (fun _ => 0))), (q5, .inl (cI, 40, .inl (fun _ => 0))), (q6, .inl (cI, 40, .inl (fun _ => 0))), (q7, .inl (cZ, 40, .inl (fun _ => 0))), (q8, .inl (cZ, 40, .inl (fun _ => 0)))] → va_S A s.heap H locs → lv_has ls 4 [(0, .ref h), (1, .int x0), (2, .int x1), (3, .int x2)] → W p l e (headSpec (Cond.code yX2_init cX2_init 4 none :: wsL_law) ({ frames := 1, cells := 8, slots := 1100, locals := 21 } : Room)).room s m ([.ref h, .int x0, .int x1, .int x2] : List Value).toArray below meth c H locs 8 1100 (MQ below (va_Qv (S := (Nat → Nat)) (fun y => y 0 = h) (fx_B (dC, dI) classes (fq_ty cI cA cZ) A (fun y => wM c0 c1 c2 c3 c4 c5 c6 y cI cZ (fqlim x0 40) (fqlim x1 300) (fqpos x2) 0 0 0 0 0 (fqfill 40 (-1) (fun _ => 0)) (fun _ => 0) (fun _ => 0) (fun _ => 0) (fun _ => 0) (fun _ => 0) (fun _ => 0) (fun _ => 0) ++ [])) A) ([.ref h, .int x0, .int x1, .int x2] : List Value).toArray s 8 1100 A) (F0 m 93 ls [.int (nI (fqlim x0 40)), .ref h]) := by
    intro H locs ls hP hD hS hl
    refine va_putF (D := (dC, dI)) (ci := 2) (v := .int (nI (fqlim x0 40))) (ty := .int) (C := RX2) (T := TX2) (N := 16) hx hb hts inlX2 tyX2 tyX2_ok nmX2 hown hK hP hD hS 7 rfl rfl 0 (by decide) (hts _ km_51) (fun _ h9 => h9) rfl hin rfl (by decide +kernel) rfl rfl (Nat.le_of_ble_eq_true rfl) dX2_init_93 (fun H locs hP hD hS => ?_)
    have hP : va_P (dC, dI) classes [c0, c1, c2, c3, c4, c5, c6, (h, .inr (2, [.int (nI (fqlim x0 40)), .int 0, .int 0, .ref q1, .int 0, .int 0, .int 0, .int 0, .ref q2, .ref q3, .ref q4, .int 0, .ref q5, .ref q6, .ref q7, .ref q8])), (q1, .inl (cI, 40, .inl (fun _ => 0))), (q2, .inl (cI, 300, .inl (fun _ => 0))), (q3, .inl (cI, 300, .inl (fun _ => 0))), (q4, .inl (cI, 300, .inl (fun _ => 0))), (q5, .inl (cI, 40, .inl (fun _ => 0))), (q6, .inl (cI, 40, .inl (fun _ => 0))), (q7, .inl (cZ, 40, .inl (fun _ => 0))), (q8, .inl (cZ, 40, .inl (fun _ => 0)))] H := hP
    have hD : va_D A [c0, c1, c2, c3, c4, c5, c6, (h, .inr (2, [.int (nI (fqlim x0 40)), .int 0, .int 0, .ref q1, .int 0, .int 0, .int 0, .int 0, .ref q2, .ref q3, .ref q4, .int 0, .ref q5, .ref q6, .ref q7, .ref q8])), (q1, .inl (cI, 40, .inl (fun _ => 0))), (q2, .inl (cI, 300, .inl (fun _ => 0))), (q3, .inl (cI, 300, .inl (fun _ => 0))), (q4, .inl (cI, 300, .inl (fun _ => 0))), (q5, .inl (cI, 40, .inl (fun _ => 0))), (q6, .inl (cI, 40, .inl (fun _ => 0))), (q7, .inl (cZ, 40, .inl (fun _ => 0))), (q8, .inl (cZ, 40, .inl (fun _ => 0)))] := hD
    refine lv_aload_n hx hb dX2_init_96 rfl (lv_at hl 0 rfl) ?_
    refine lv_iload_n hx hb dX2_init_97 rfl (lv_at hl 2 rfl) ?_
    refine lv_iconst (v := 1) hx hb dX2_init_98 (by decide) ?_
    refine lv_icmp_ge (tgt := 106) hx hb dX2_init_99 (by decide) (fun c9 => ?_) (fun c9 => ?_)
    · refine lv_iload_n hx hb dX2_init_106 rfl (lv_at hl 2 rfl) ?_
      refine lv_sipush (v := 300) hx hb dX2_init_107 (by decide) ?_
      refine lv_icmp_le (tgt := 119) hx hb dX2_init_110 (by decide) (fun c8 => ?_) (fun c8 => ?_)
      · refine lv_iload_n hx hb dX2_init_119 rfl (lv_at hl 2 rfl) ?_
        refine fx_is (fqlim_x (hi := 300) c9 c8) ?_
        exact K120 H locs ls hP hD hS hl
      · refine lv_sipush (v := 300) hx hb dX2_init_113 (by decide) ?_
        refine lv_goto (tgt := 120) hx hb dX2_init_116 (by decide) ?_
        refine fx_is (fqlim_hi (hi := 300) c9 c8) ?_
        exact K120 H locs ls hP hD hS hl
    · refine lv_iconst (v := 1) hx hb dX2_init_102 (by decide) ?_
      refine lv_goto (tgt := 120) hx hb dX2_init_103 (by decide) ?_
      refine fx_is (fqlim_1 (hi := 300) c9) ?_
      exact K120 H locs ls hP hD hS hl
  refine lv_aload_n hx hb dX2_init_71 rfl (lv_at hl 0 rfl) ?_
  refine lv_iload_n hx hb dX2_init_72 rfl (lv_at hl 1 rfl) ?_
  refine lv_iconst (v := 1) hx hb dX2_init_73 (by decide) ?_
  refine lv_icmp_ge (tgt := 81) hx hb dX2_init_74 (by decide) (fun c9 => ?_) (fun c9 => ?_)
  · refine lv_iload_n hx hb dX2_init_81 rfl (lv_at hl 1 rfl) ?_
    refine lv_bipush (v := 40) hx hb dX2_init_82 (by decide) ?_
    refine lv_icmp_le (tgt := 92) hx hb dX2_init_84 (by decide) (fun c8 => ?_) (fun c8 => ?_)
    · refine lv_iload_n hx hb dX2_init_92 rfl (lv_at hl 1 rfl) ?_
      refine fx_is (fqlim_x (hi := 40) c9 c8) ?_
      exact K93 H locs ls hP hD hS hl
    · refine lv_bipush (v := 40) hx hb dX2_init_87 (by decide) ?_
      refine lv_goto (tgt := 93) hx hb dX2_init_89 (by decide) ?_
      refine fx_is (fqlim_hi (hi := 40) c9 c8) ?_
      exact K93 H locs ls hP hD hS hl
  · refine lv_iconst (v := 1) hx hb dX2_init_77 (by decide) ?_
    refine lv_goto (tgt := 93) hx hb dX2_init_78 (by decide) ?_
    refine fx_is (fqlim_1 (hi := 40) c9) ?_
    exact K93 H locs ls hP hD hS hl
end
section
/-! WHAT HOLDS BETWEEN THE CALLS: the part that the walks need -/
theorem fqch_pre {rest : va_W} {x : va_W} : ∀ (t : List (Int32 × Int32)) (r : Option Nat), fqch rest r t → fqch (x ++ rest) r t := by
  intro t
  induction t with
  | nil => exact fun r h => h
  | cons y t ih =>
    obtain ⟨e, w⟩ := y
    rintro r ⟨a, nx, h1, ⟨k, h2⟩, h3⟩
    exact ⟨a, nx, h1, ⟨x.length + k, by rw [List.getElem?_append_right (by omega), Nat.add_sub_cancel_left]; exact h2⟩, ih nx h3⟩
theorem mqloop_T {n : Nat} {F T Ln : Nat → Int32} {ac : Nat} (hn : n ≤ 40) (hnet : mqnet n ac F T) : ∀ (d : Nat) (s : mqR), mqT n s → mqT n (mqloop n F T Ln ac d s) := by
  intro d
  induction d with
  | zero => exact fun s h => h
  | succ d ih =>
    intro s h
    rw [mqloop_s]
    split
    · rename_i h0
      exact ih _ (mqnext_T hn hnet h h0).1
    · exact h
theorem mqrun_S {n : Nat} {F T Ln : Nat → Int32} {ac : Nat} {s : mqX} {x : Int32} (hn : n ≤ 40) (hnet : mqnet n ac F T) (h : mqS n s.1.1) : mqS n (mqrun n F T Ln ac s x).2.1.1 := by
  unfold mqrun
  cases fqat n x with
  | none => exact h
  | some j => exact (mqloop_T (Ln := Ln) hn hnet (n + 1) _ (mqstart_T hn (mqclear_S hn s.1.1))).1
def lawB (n ar : Nat) (ac : Nat) (r : fqR) (L : Nat → Option Nat) (pool : va_W) (as : Nat → List (Int32 × Int32)) (mx : mqX) (F T Ln : Nat → Int32) : Prop :=
  (∀ i, i < n → fqch pool (L i) (as i) ∧ fqends n (as i)) ∧ fqS n r.1 ∧ mqS n mx.1.1 ∧ mqnet n ac F T ∧ ac ≤ ar
theorem fqarcR_0 {n ar ac : Nat} {gl xu xv w : Int32} (har : ar ≤ 300) (hac : ac ≤ ar) (h : fqarcR n (nI ar) gl (nI ac) xu xv w = 0) : (∃ j, j < n ∧ xu = nI j) ∧ (∃ k, k < n ∧ xv = nI k) ∧ ac < ar ∧ ¬ w < 0 := by
  unfold fqarcR at h
  cases e1 : fqat n xu with
  | none =>
    rw [e1] at h
    have h : (-1 : Int32) = 0 := by cases e2 : fqat n xv with | none => rw [e2] at h; exact h | some k => rw [e2] at h; exact h
    exact absurd h (by decide)
  | some j =>
    cases e2 : fqat n xv with
    | none =>
      rw [e1, e2] at h
      have h : (-1 : Int32) = 0 := h
      exact absurd h (by decide)
    | some k =>
      rw [e1, e2] at h
      dsimp only at h
      split at h
      · exact absurd h (by decide)
      · rename_i h1
        split at h
        · split at h
          · rename_i h3
            exact ⟨⟨j, fqat_lt e1⟩, ⟨k, fqat_lt e2⟩, (nI_ltI (by omega) (by omega)).mp h3, h1⟩
          · exact absurd h (by decide)
        · exact absurd h (by decide)
theorem mqarc_0 {n ar : Nat} {gl : Int32} {s : Nat × Int32 × (Nat → Int32) × (Nat → Int32) × (Nat → Int32)} {xu xv w : Int32} (h : fqarcR n (nI ar) gl (nI s.1) xu xv w = 0) : mqarc n ar gl s xu xv w = (0, (s.1 + 1, 0, upd s.2.2.1 s.1 xu, upd s.2.2.2.1 s.1 xv, upd s.2.2.2.2 s.1 w)) := by
  unfold mqarc; rw [if_pos h]
theorem mqarc_n {n ar : Nat} {gl : Int32} {s : Nat × Int32 × (Nat → Int32) × (Nat → Int32) × (Nat → Int32)} {xu xv w : Int32} (h : fqarcR n (nI ar) gl (nI s.1) xu xv w ≠ 0) : mqarc n ar gl s xu xv w = (fqarcR n (nI ar) gl (nI s.1) xu xv w, s) := by
  unfold mqarc; rw [if_neg h]
/-- an arc's list comes ahead -/
def fqas (as : Nat → List (Int32 × Int32)) (j : Nat) (v w : Int32) : Nat → List (Int32 × Int32) := fun i => if i = j then (v, w) :: as j else as i
theorem lawB_arc {n ar ac : Nat} {r : fqR} {L : Nat → Option Nat} {pool : va_W} {as : Nat → List (Int32 × Int32)} {mx mx' : mqX} {F T Ln : Nat → Int32} {Ds Bf : Nat → Int32} {j k q : Nat} {w : Int32} (h : lawB n ar ac r L pool as mx F T Ln) (hn : n ≤ 40) (hj : j < n) (hk : k < n) (hac : ac < ar) (hm : mx'.1.1 = mx.1.1) :
    lawB n ar (ac + 1) (r.1, Ds, Bf) (va_up L j (some q)) (pool ++ [(q, .inr (1, [.int (nI k), .int w, va_rf (L j)]))]) (fqas as j (nI k) w) mx' (upd F ac (nI j)) (upd T ac (nI k)) (upd Ln ac w) := by
  obtain ⟨h1, h2, h3, h4, h5⟩ := h
  refine ⟨fun i hi => ?_, h2, by rw [hm]; exact h3, fun a ha => ?_, hac⟩
  · unfold fqas va_up
    by_cases e : i = j
    · subst e
      rw [if_pos rfl, if_pos rfl]
      refine ⟨⟨q, L i, rfl, ⟨pool.length, fq_last _ _⟩, fqch_app _ _ (h1 i hi).1⟩, fun a ha => ?_⟩
      rcases List.mem_cons.mp ha with e | e
      · subst e; exact ⟨k, hk, rfl⟩
      · exact (h1 i hi).2 a e
    · rw [if_neg e, if_neg e]
      exact ⟨fqch_app _ _ (h1 i hi).1, (h1 i hi).2⟩
  · by_cases e : a = ac
    · subst e
      rw [pk_us, pk_us]
      exact ⟨⟨j, hj, rfl⟩, k, hk, rfl⟩
    · rw [pk_un e, pk_un e]
      exact h4 a (by omega)
def fqcell (N : Nat) (xs : Nat → Int32) (k : Nat) : Int32 := if k < N then xs k else 0
/-- the loop's head: i goes while i + 4 ≤ N -/
theorem fq_head {i N : Nat} (hi : i < 5000) (hN : N ≤ 2051) : nI N - 4 < nI i ↔ ¬ i + 4 ≤ N := by
  have h1 : (nI N - nI 4).toInt = (N : Int) - 4 := pk_sub_toInt (by omega) (by decide)
  have h2 : (nI i).toInt = (i : Int) := nI_toInt (by omega)
  rw [show (nI N - 4 : Int32) = nI N - nI 4 from rfl, Int32.lt_iff_toInt_lt, h1, h2]
  omega
/-- the class's cells one by one; the reference's nine -/
abbrev xc0 (z : Nat → Nat) (n : Nat) (ar gl fl pr pg ky ac : Int32) : Nat × va_E := (z 0, .inr (0, [.int (nI n), .int ar, .int gl, .ref (z 1), .ref (z 2), .ref (z 3), .int fl, .int pr, .int pg, .int ky, .ref (z 4), .int ac, .ref (z 5), .ref (z 6)]))
abbrev xcI (z : Nat → Nat) (k : Nat) (cI : ClassId) (n : Nat) (f : Nat → Int32) : Nat × va_E := (z k, .inl (cI, n, .inl f))
abbrev xcQ (z : Nat → Nat) (k : Nat) (cA : ClassId) (n : Nat) (f : Nat → Option Nat) : Nat × va_E := (z k, .inl (cA, n, .inr (.inr (.inr (.inr f)))))
abbrev mC (y : Nat → Nat) (cI cZ : ClassId) (n ar : Nat) (gl lo pg ca : Int32) (ac : Nat) (hw : Int32) (K F T Ln Wy Fo Tk Ne : Nat → Int32) : va_W := [(y 0, .inr (2, [.int (nI n), .int (nI ar), .int gl, .ref (y 1), .int lo, .int pg, .int ca, .int (nI ac), .ref (y 2), .ref (y 3), .ref (y 4), .int hw, .ref (y 5), .ref (y 6), .ref (y 7), .ref (y 8)])), (y 1, .inl (cI, 40, .inl K)), (y 2, .inl (cI, 300, .inl F)), (y 3, .inl (cI, 300, .inl T)), (y 4, .inl (cI, 300, .inl Ln)), (y 5, .inl (cI, 40, .inl Wy)), (y 6, .inl (cI, 40, .inl Fo)), (y 7, .inl (cZ, 40, .inl Tk)), (y 8, .inl (cZ, 40, .inl Ne))]
set_option maxHeartbeats 4000000 in
theorem sl_cell (l : Launch) (b N k : Nat) (xs : Nat → Int32) (hN : N < 2 ^ 31) (hk : k < 2 ^ 31) : Met l yL_cell (Cond.code yL_cell cL_cell 2 (some .int) :: wsL_law) ({ frames := 0, cells := 0, slots := 0, locals := 0 } : Room) (va_Pc [.ref b, .int (nI k)] (fun U => va_X b N xs U U.heap)) (vp_Si (fun r => r = fqcell N xs k)) 0 0 (fun _ => False) := by
  refine Met.ofW (cc := cL_cell) (maxL := 2) (ret := (some .int)) (by decide) rfl ?_
  intro p e s m args below meth c s₁ B0 hml hv
  obtain ⟨rfl, hX⟩ := hv
  have hx := B0.exec
  have hb := B0.bytes
  have hr := B0.returns
  have hlocks := B0.notSynchronized
  have hS : va_S (fun _ => False) s.heap s.heap [] := va_S.rf
  have hbl : b < s.heap.size := by obtain ⟨scr, h1, -⟩ := hX; exact (Array.getElem?_eq_some_iff.mp h1).1
  have hl := lv_entry ([.ref b, .int (nI k)]) (n := 2) (Nat.le_of_ble_eq_true rfl)
  rw [lg_entry_eq]
  generalize (lg_sl ([.ref b, .int (nI k)]) ++ List.replicate (2 - (lg_sl ([.ref b, .int (nI k)])).length) Slot.unset).toArray = ls at hl ⊢
  have hl : lv_has ls 2 [(0, .ref b), (1, .int (nI k))] := hl
  refine lv_iload_n hx hb dL_cell_0 rfl (lv_at hl 1 rfl) ?_
  refine lv_aload_n hx hb dL_cell_1 rfl (lv_at hl 0 rfl) ?_
  refine va_slen hx hb hX hbl (fun h => h) hS dL_cell_2 ?_
  refine lv_icmp_ge (tgt := 12) hx hb dL_cell_3 (by decide) (fun c_3 => ?_) (fun c_3 => ?_)
  · refine lv_iconst (v := 0) hx hb dL_cell_12 (by decide) ?_
    exact fx_sret hx hb hr hlocks dL_cell_13 (by unfold fqcell; rw [if_neg (Nat.not_lt.mpr ((nI_leI hN hk).mp c_3))])
  · have hlt : k < N := Nat.lt_of_not_le fun h9 => c_3 ((nI_leI hN hk).mpr h9)
    refine lv_aload_n hx hb dL_cell_6 rfl (lv_at hl 0 rfl) ?_
    refine lv_iload_n hx hb dL_cell_7 rfl (lv_at hl 1 rfl) ?_
    refine va_sld hx hb hX hbl (fun h => h) hS (vp_in_nI hlt hN) dL_cell_8 ?_
    rw [nI_clamp hk]
    refine lv_goto (tgt := 13) hx hb dL_cell_9 (by decide) ?_
    exact fx_sret hx hb hr hlocks dL_cell_13 (by unfold fqcell; rw [if_pos hlt])
theorem cw_cell {R : Room} {s : State} {args : Array Value} {rm : Room} (hts : ∀ w ∈ wsL_law, w.before args s = true) (hR : rm.frames + 1 ≤ R.frames ∧ 8 + (2 + 11) + rm.locals ≤ R.locals) : CallB R s args RL 9 yL_cell cL_cell 2 (some .int) (Cond.code yL_cell cL_cell 2 (some .int) :: wsL_law) rm rm.cells rm.slots 2 ∧ (Cond.static yL_cell).before args s = true := va_cwS 2 hts (km_app (km_three km_6 km_7 km_8) (km_in km_9)) rfl rfl rfl (by decide +kernel) hR
section FXS
variable {p : Program} {l : Launch} {e : Env} {R : Room} {s : State} {m : MethodId} {args : Array Value} {below : List Frame} {meth : Method} {c : Code} {H : Heap} {locs : List Loc} {cells slots : Nat} {Q : State → Prop} {A : Nat → Prop} {pc : Nat} {ls : Array Slot} {rest : List Value} {cc : ByteArray}
/-- the script at a place that is a number -/
theorem fx_sld (hx : p.tables.exec = Jvm.exec) (hb : c.code = cc) {b N : Nat} {xs : Nat → Int32} (hX : va_X b N xs s s.heap) (hbl : b < s.heap.size) (hbA : ¬ A b) (hS : va_S A s.heap H locs) {i : Int32} (k : Nat) (hi : i = nI k) (hk : k < N) (hN : N < 2 ^ 31) (hdg : decode cc pc = .ok (.iaload, 1))
    (kk : W p l e R s m args below meth c H locs cells slots Q (F0 m (pc + 1) ls (.int (xs k) :: rest))) : W p l e R s m args below meth c H locs cells slots Q (F0 m pc ls (.int i :: .ref b :: rest)) := by
  subst hi
  exact va_sld hx hb hX hbl hbA hS (vp_in_nI hk hN) hdg (by rw [nI_clamp (Nat.lt_trans hk hN)]; exact kk)
theorem fx_cell (hx : p.tables.exec = Jvm.exec) (hb : c.code = cc) {nL : Nat} (F : CallFix p m c cc nL s args wsL_law RL) {b N : Nat} {xs : Nat → Int32} (hX : va_X b N xs s s.heap) (hbl : b < s.heap.size) (hbA : ¬ A b) (hS : va_S A s.heap H locs) (k : Nat) (hk : k < 2 ^ 31) (hN : N < 2 ^ 31) (hR : 1 ≤ R.frames ∧ 21 ≤ R.locals) (hl : ls.size = nL) (hW : (rest.map fun v => v.category).sum ≤ 8) (hf : cells ≤ R.cells ∧ slots ≤ R.slots) (hdg : decode cc pc = .ok (.invokestatic 9, 3))
    (kk : W p l e R s m args below meth c H locs cells slots Q (F0 m (pc + 3) ls (.int (fqcell N xs k) :: rest))) : W p l e R s m args below meth c H locs cells slots Q (F0 m pc ls (.int (nI k) :: .ref b :: rest)) :=
  vp_callSi (W.runS (As := [.ref b, .int (nI k)]) (rest := rest) F (sl_cell l b N k xs hN hk) (cw_cell F.2.2.2.2 hR) ⟨fun a U g mk q => ⟨q.1, va_X.moved (u := U) (U := U.calling g mk a) (Vm.Alike.refl U.vm) q.2⟩, fun U hU hW => ⟨rfl, by show va_X b N xs U U.heap; rw [hU]; exact va_X.moved hW.alike (hX.kept (hS.2.1 b hbl hbA))⟩⟩ rfl rfl hl rfl (lv_room hW) hdg hf) (fun r hr => by rw [hr]; exact kk)
end FXS
end
section
/-! THE QUEUES OF BOTH SIDES -/
theorem fqn_le {x y : Int32} (hx : ¬ x < 0) (hy : ¬ y < 0) : x ≤ y ↔ fqn x ≤ fqn y := by
  obtain ⟨a, ha, rfl⟩ := nI_of hx
  obtain ⟨b, hb, rfl⟩ := nI_of hy
  rw [fqn_nI ha, fqn_nI hb, nI_leI ha hb]
theorem fqn_lt' {x y : Int32} (hx : ¬ x < 0) (hy : ¬ y < 0) : x < y ↔ fqn x < fqn y := by
  obtain ⟨a, ha, rfl⟩ := nI_of hx
  obtain ⟨b, hb, rfl⟩ := nI_of hy
  rw [fqn_nI ha, fqn_nI hb, nI_ltI ha hb]
theorem fqn_inj {x y : Int32} (hx : ¬ x < 0) (hy : ¬ y < 0) (h : fqn x = fqn y) : x = y := by rw [← nI_fqn hx, ← nI_fqn hy, h]
theorem fq_ge0 {a b : Int32} (h : b ≤ a) (hb : ¬ b < 0) : ¬ a < 0 := fun q => hb (Int32.lt_of_le_of_lt h q)
theorem fq_ge1 {a b : Int32} (h : b ≤ a) (hb : ¬ b < 0) : a ≠ -1 := fun q => fq_ge0 h hb (by rw [q]; decide)
theorem fqk_eq {x f : Int32} {b : Nat} (hb : b < 32) : nI (fqk x f) = nI b ↔ fqk x f = b := nI_eq (by have := fqk_lt x f; omega) (by omega)
/-- an item: its key and bucket in the class, its key in the reference -/
def QI (lo k b mk : Int32) : Prop := (mk = -1 ∧ b = -1) ∨ (mk ≠ -1 ∧ k = mk ∧ lo ≤ mk ∧ b = nI (fqk mk lo))
def MC (n : Nat) (B M : Nat → Int32) : Prop := ∀ b, b < 32 → M b = nI (fqcnt (fun i => decide (B i = nI b)) n)
def QR (n : Nat) (q : fqQ) (m : mqQ) : Prop := q.1 = m.1 ∧ ¬ m.1 < 0 ∧ q.2.2.1 = m.2.1 ∧ (∀ i, i < n → QI m.1 (q.2.2.2.2.1 i) (q.2.2.2.2.2.1 i) (m.2.2.2 i)) ∧ q.2.1 = nI (fqcnt (mqhas m.2.2.2) n) ∧ MC n q.2.2.2.2.2.1 q.2.2.2.2.2.2
theorem QI.away {lo k b mk : Int32} (h : QI lo k b mk) : b = -1 ↔ mk = -1 := by
  rcases h with ⟨h1, h2⟩ | ⟨h1, -, -, h4⟩
  · exact ⟨fun _ => h1, fun _ => h2⟩
  · constructor
    · intro h5
      rw [h5] at h4
      exact absurd h4.symm (fq_nm1 (by have := fqk_lt mk lo; omega))
    · exact fun h5 => absurd h5 h1
theorem QI.there {lo k b mk : Int32} (h : QI lo k b mk) (h0 : mk ≠ -1) : k = mk ∧ lo ≤ mk ∧ b = nI (fqk mk lo) := by
  rcases h with ⟨h1, -⟩ | ⟨-, h⟩
  · exact absurd h1 h0
  · exact h
theorem QI.range {lo k b mk : Int32} (h : QI lo k b mk) : b = -1 ∨ ∃ b', b' < 32 ∧ b = nI b' := by
  rcases h with ⟨-, h2⟩ | ⟨-, -, -, h4⟩
  · exact Or.inl h2
  · exact Or.inr ⟨_, fqk_lt mk lo, h4⟩
theorem MC.leave {n : Nat} {B M : Nat → Int32} (h : MC n B M) {j b : Nat} (hj : j < n) (hb : b < 32) (e : B j = nI b) : MC n (upd B j (-1)) (upd M b (M b - 1)) := by
  intro c hc
  by_cases e1 : c = b
  · subst e1
    rw [pk_us, h c hc]
    have h1 := fqcnt_on (p := fun i => decide (upd B j (-1) i = nI c)) (q := fun i => decide (B i = nI c)) hj (by rw [pk_us]; exact decide_eq_false (fun q => fq_nm1 (by omega) q.symm)) (by simp [e]) (fun i _ hi => by rw [pk_un hi])
    rw [h1, nI_pred]
  · rw [pk_un e1, h c hc]
    congr 1
    refine fqcnt_eq fun i _ => ?_
    by_cases e2 : i = j
    · subst e2
      rw [pk_us, e, decide_eq_false (fun q => e1 ((nI_eq (by omega) (by omega)).mp q).symm), decide_eq_false (fun q => fq_nm1 (by omega) q.symm)]
    · rw [pk_un e2]
theorem MC.join {n : Nat} {B M : Nat → Int32} (h : MC n B M) {j b : Nat} (hj : j < n) (hb : b < 32) (e : B j = -1) : MC n (upd B j (nI b)) (upd M b (M b + 1)) := by
  intro c hc
  by_cases e1 : c = b
  · subst e1
    rw [pk_us, h c hc]
    have h1 := fqcnt_on (p := fun i => decide (B i = nI c)) (q := fun i => decide (upd B j (nI c) i = nI c)) hj (by rw [e]; exact decide_eq_false (fun q => fq_nm1 (by omega) q.symm)) (by rw [pk_us]; simp) (fun i _ hi => by rw [pk_un hi])
    rw [h1, nI_1]
  · rw [pk_un e1, h c hc]
    congr 1
    refine fqcnt_eq fun i _ => ?_
    by_cases e2 : i = j
    · subst e2
      rw [pk_us, e, decide_eq_false (fun q => fq_nm1 (by omega) q.symm), decide_eq_false (fun q => e1 ((nI_eq (by omega) (by omega)).mp q).symm)]
    · rw [pk_un e2]
theorem fqleave_MC {n : Nat} {q : fqQ} {j : Nat} (hj : j < n) (hB : q.2.2.2.2.2.1 j = -1 ∨ ∃ b, b < 32 ∧ q.2.2.2.2.2.1 j = nI b) (h : MC n q.2.2.2.2.2.1 q.2.2.2.2.2.2) : MC n (fqleave q j).2.2.2.2.2.1 (fqleave q j).2.2.2.2.2.2 := by
  obtain ⟨fl, pr, pg, ky, K, B, M⟩ := q
  dsimp only at hB h
  simp only [fqleave]
  split
  · exact h
  · rename_i h1
    obtain ⟨b, hb, e⟩ := hB.resolve_left h1
    rw [e, fqn_nI (by omega)]
    exact h.leave hj hb e
theorem fqput_MC {n : Nat} {q : fqQ} {j : Nat} (hj : j < n) (hB : q.2.2.2.2.2.1 j = -1 ∨ ∃ b, b < 32 ∧ q.2.2.2.2.2.1 j = nI b) (h : MC n q.2.2.2.2.2.1 q.2.2.2.2.2.2) : MC n (fqput q j).2.2.2.2.2.1 (fqput q j).2.2.2.2.2.2 := by
  have h1 := fqleave_MC hj hB h
  have h2 : (fqleave q j).2.2.2.2.2.1 j = -1 := by rw [fqleave_B, if_pos rfl]
  unfold fqput
  generalize fqleave q j = u at h1 h2
  obtain ⟨fl, pr, pg, ky, K, B, M⟩ := u
  exact h1.join hj (fqk_lt _ _) h2
theorem fqtake_MC {n : Nat} {q : fqQ} {j : Nat} (hj : j < n) (hB : q.2.2.2.2.2.1 j = -1 ∨ ∃ b, b < 32 ∧ q.2.2.2.2.2.1 j = nI b) (h : MC n q.2.2.2.2.2.1 q.2.2.2.2.2.2) : MC n (fqtake q j).2.2.2.2.2.1 (fqtake q j).2.2.2.2.2.2 := by
  have h1 := fqleave_MC hj hB h
  unfold fqtake
  generalize fqleave q j = u at h1
  obtain ⟨fl, pr, pg, ky, K, B, M⟩ := u
  exact h1
theorem fqleave_s (q : fqQ) (j : Nat) : (fqleave q j).2.1 = q.2.1 ∧ (fqleave q j).2.2.1 = q.2.2.1 ∧ (fqleave q j).2.2.2.1 = q.2.2.2.1 := by
  obtain ⟨fl, pr, pg, ky, K, B, M⟩ := q
  simp only [fqleave]
  split <;> exact ⟨rfl, rfl, rfl⟩
theorem fqput_sc (q : fqQ) (j : Nat) : (fqput q j).2.1 = q.2.1 ∧ (fqput q j).2.2.1 = q.2.2.1 + 1 ∧ (fqput q j).2.2.2.1 = q.2.2.2.1 := by
  have h1 := fqleave_s q j
  unfold fqput
  generalize fqleave q j = u at h1
  obtain ⟨fl, pr, pg, ky, K, B, M⟩ := u
  obtain ⟨a, b, c⟩ := h1
  dsimp only at a b c ⊢
  exact ⟨a, by rw [b], c⟩
theorem fqtake_sc (q : fqQ) (j : Nat) : (fqtake q j).2.1 = q.2.1 - 1 ∧ (fqtake q j).2.2.1 = q.2.2.1 ∧ (fqtake q j).2.2.2.1 = q.2.2.2.1 := by
  have h1 := fqleave_s q j
  unfold fqtake
  generalize fqleave q j = u at h1
  obtain ⟨fl, pr, pg, ky, K, B, M⟩ := u
  obtain ⟨a, b, c⟩ := h1
  dsimp only at a b c ⊢
  exact ⟨by rw [a], b, c⟩
/-- push -/
theorem QR_push {n : Nat} (hn : n ≤ 40) {q : fqQ} {m : mqQ} (h : QR n q m) (x key : Int32) : (fqpush n q x key).1 = (mqpush n m x key).1 ∧ QR n (fqpush n q x key).2 (mqpush n m x key).2 := by
  obtain ⟨h1, h2, h3, h4, h5, h6⟩ := id h
  unfold fqpush mqpush
  cases e : fqat n x with
  | none => exact ⟨rfl, h⟩
  | some j =>
    obtain ⟨hj, -⟩ := fqat_lt e
    dsimp only
    have hi := h4 j hj
    by_cases e1 : m.2.2.2 j = -1
    · have e2 := hi.away.mpr e1
      rw [if_pos e1, if_pos e2, h1]
      by_cases e3 : key < m.1
      · rw [if_pos e3, if_pos e3]
        exact ⟨rfl, h⟩
      · rw [if_neg e3, if_neg e3]
        refine ⟨rfl, ?_⟩
        have hk1 : key ≠ -1 := fq_ge1 (Int32.not_lt.mp e3) h2
        obtain ⟨a1, a2, a3⟩ := fqput_sc (m.1, q.2.1 + 1, q.2.2.1, q.2.2.2.1 + 1, upd q.2.2.2.2.1 j key, q.2.2.2.2.2.1, q.2.2.2.2.2.2) j
        obtain ⟨b1, b2⟩ := fqput_K (m.1, q.2.1 + 1, q.2.2.1, q.2.2.2.1 + 1, upd q.2.2.2.2.1 j key, q.2.2.2.2.2.1, q.2.2.2.2.2.2) j
        refine ⟨b2, h2, by rw [a2]; show q.2.2.1 + 1 = m.2.1 + 1; rw [h3], fun i hil => ?_, ?_, fqput_MC hj (Or.inl e2) h6⟩
        · rw [b1, fqput_B]
          show QI m.1 (upd q.2.2.2.2.1 j key i) (if i = j then nI (fqk (upd q.2.2.2.2.1 j key j) m.1) else q.2.2.2.2.2.1 i) (upd m.2.2.2 j key i)
          by_cases e4 : i = j
          · subst e4
            rw [if_pos rfl, pk_us, pk_us]
            exact Or.inr ⟨hk1, rfl, Int32.not_lt.mp e3, rfl⟩
          · rw [if_neg e4, pk_un e4, pk_un e4]
            exact h4 i hil
        · rw [a1]
          show q.2.1 + 1 = nI (fqcnt (mqhas (upd m.2.2.2 j key)) n)
          rw [h5, fqcnt_on (p := mqhas m.2.2.2) (q := mqhas (upd m.2.2.2 j key)) hj (by simp [mqhas, e1]) (by unfold mqhas; rw [pk_us]; exact decide_eq_true hk1) (fun i _ hi => by unfold mqhas; rw [pk_un hi]), nI_1]
    · have e2 : ¬ q.2.2.2.2.2.1 j = -1 := fun q9 => e1 (hi.away.mp q9)
      rw [if_neg e1, if_neg e2]
      exact ⟨rfl, h⟩
/-- lower -/
theorem QR_lower {n : Nat} (hn : n ≤ 40) {q : fqQ} {m : mqQ} (h : QR n q m) (x key : Int32) : (fqlower n q x key).1 = (mqlower n m x key).1 ∧ QR n (fqlower n q x key).2 (mqlower n m x key).2 := by
  obtain ⟨h1, h2, h3, h4, h5, h6⟩ := id h
  unfold fqlower mqlower
  cases e : fqat n x with
  | none => exact ⟨rfl, h⟩
  | some j =>
    obtain ⟨hj, -⟩ := fqat_lt e
    dsimp only
    have hi := h4 j hj
    by_cases e1 : m.2.2.2 j = -1
    · rw [if_pos e1, if_pos (hi.away.mpr e1)]
      exact ⟨rfl, h⟩
    · obtain ⟨k1, k2, k3⟩ := hi.there e1
      rw [if_neg e1, if_neg (fun q9 => e1 (hi.away.mp q9)), h1]
      by_cases e3 : key < m.1
      · rw [if_pos e3, if_pos e3]
        exact ⟨rfl, h⟩
      · rw [if_neg e3, if_neg e3, k1]
        by_cases e4 : key ≤ m.2.2.2 j
        · rw [if_pos e4, if_pos e4]
          have hk1 : key ≠ -1 := fq_ge1 (Int32.not_lt.mp e3) h2
          have hcnt : fqcnt (mqhas (upd m.2.2.2 j key)) n = fqcnt (mqhas m.2.2.2) n := fqcnt_eq fun i _ => by
            unfold mqhas
            by_cases e5 : i = j
            · subst e5; rw [pk_us, decide_eq_true hk1, decide_eq_true e1]
            · rw [pk_un e5]
          by_cases e5 : m.2.2.2 j ≤ key
          · rw [if_pos e5]
            have ek : key = m.2.2.2 j := Int32.le_antisymm e4 e5
            refine ⟨rfl, h1, h2, ?_, fun i hil => ?_, by rw [hcnt]; exact h5, h6⟩
            · rw [ek, if_pos rfl, Int32.add_zero]; exact h3
            · show QI m.1 (q.2.2.2.2.1 i) (q.2.2.2.2.2.1 i) (upd m.2.2.2 j key i)
              by_cases e6 : i = j
              · subst e6; rw [pk_us, ek]; exact hi
              · rw [pk_un e6]; exact h4 i hil
          · rw [if_neg e5]
            refine ⟨rfl, ?_⟩
            show QR n (fqlow1 q j key) _
            unfold fqlow1
            rw [h1, k3]
            by_cases e7 : nI (fqk key m.1) = nI (fqk (m.2.2.2 j) m.1)
            · rw [if_pos e7, if_pos e7]
              refine ⟨rfl, h2, by show q.2.2.1 = m.2.1 + 0; rw [Int32.add_zero, h3], fun i hil => ?_, by rw [hcnt]; exact h5, h6⟩
              show QI m.1 (upd q.2.2.2.2.1 j key i) (q.2.2.2.2.2.1 i) (upd m.2.2.2 j key i)
              by_cases e6 : i = j
              · subst e6; rw [pk_us, pk_us]; exact Or.inr ⟨hk1, rfl, Int32.not_lt.mp e3, by rw [k3, e7]⟩
              · rw [pk_un e6, pk_un e6]; exact h4 i hil
            · rw [if_neg e7, if_neg e7]
              obtain ⟨a1, a2, a3⟩ := fqput_sc (m.1, q.2.1, q.2.2.1, q.2.2.2.1 + 1, upd q.2.2.2.2.1 j key, q.2.2.2.2.2.1, q.2.2.2.2.2.2) j
              obtain ⟨b1, b2⟩ := fqput_K (m.1, q.2.1, q.2.2.1, q.2.2.2.1 + 1, upd q.2.2.2.2.1 j key, q.2.2.2.2.2.1, q.2.2.2.2.2.2) j
              refine ⟨b2, h2, by rw [a2]; show q.2.2.1 + 1 = m.2.1 + 1; rw [h3], fun i hil => ?_, by rw [a1, hcnt]; exact h5, fqput_MC hj hi.range h6⟩
              rw [b1, fqput_B]
              show QI m.1 (upd q.2.2.2.2.1 j key i) (if i = j then nI (fqk (upd q.2.2.2.2.1 j key j) m.1) else q.2.2.2.2.2.1 i) (upd m.2.2.2 j key i)
              by_cases e6 : i = j
              · subst e6
                rw [if_pos rfl, pk_us, pk_us]
                exact Or.inr ⟨hk1, rfl, Int32.not_lt.mp e3, rfl⟩
              · rw [if_neg e6, pk_un e6, pk_un e6]
                exact h4 i hil
        · rw [if_neg e4, if_neg e4]
          exact ⟨rfl, h⟩
end
section
/-! POP ON BOTH SIDES -/
theorem fqlow_no {M : Nat → Int32} : ∀ (d i : Nat), fqlow M d i = none → ∀ b, i ≤ b → b < d + i → ¬ 0 < M b := by
  intro d
  induction d with
  | zero => intro i _ b h1 h2; omega
  | succ d ih =>
    intro i h b h1 h2
    have h : (if 0 < M i then some i else fqlow M d (i + 1)) = none := h
    by_cases e : 0 < M i
    · rw [if_pos e] at h; cases h
    · rw [if_neg e] at h
      rcases Nat.eq_or_lt_of_le h1 with q | q
      · subst q; exact e
      · exact ih (i + 1) h b q (by omega)
theorem fqlow_yes {M : Nat → Int32} : ∀ (d i b : Nat), fqlow M d i = some b → i ≤ b ∧ b < d + i ∧ 0 < M b ∧ ∀ c, i ≤ c → c < b → ¬ 0 < M c := by
  intro d
  induction d with
  | zero => intro i b h; cases h
  | succ d ih =>
    intro i b h
    have h : (if 0 < M i then some i else fqlow M d (i + 1)) = some b := h
    by_cases e : 0 < M i
    · rw [if_pos e] at h
      cases h
      exact ⟨Nat.le_refl _, by omega, e, fun c h1 h2 => by omega⟩
    · rw [if_neg e] at h
      obtain ⟨a1, a2, a3, a4⟩ := ih (i + 1) b h
      refine ⟨by omega, by omega, a3, fun c h1 h2 => ?_⟩
      rcases Nat.eq_or_lt_of_le h1 with q | q
      · subst q; exact e
      · exact a4 c q h2
/-- least key, then least number -/
def fqmin (n : Nat) (p : Nat → Prop) (k : Nat → Int32) (j : Nat) : Prop := j < n ∧ p j ∧ ∀ i, i < n → p i → k j ≤ k i ∧ (i < j → k j < k i)
theorem fqmin_uniq {n : Nat} {p : Nat → Prop} {k : Nat → Int32} {j j' : Nat} (h : fqmin n p k j) (h' : fqmin n p k j') : j = j' := by
  rcases Nat.lt_trichotomy j j' with q | q | q
  · exact absurd ((h'.2.2 j h.1 h.2.1).2 q) (Int32.not_lt.mpr (h.2.2 j' h'.1 h'.2.1).1)
  · exact q
  · exact absurd ((h.2.2 j' h'.1 h'.2.1).2 q) (Int32.not_lt.mpr (h'.2.2 j h.1 h.2.1).1)
def bestI (p : Nat → Prop) (k : Nat → Int32) (i : Nat) (a : Option Nat) : Prop := match a with
  | none => ∀ t, t < i → ¬ p t
  | some j => fqmin i p k j
theorem fqbest_inv {K B : Nat → Int32} {b : Int32} : ∀ (d i : Nat) (a : Option Nat), bestI (fun t => B t ≠ -1 ∧ B t = b) K i a → bestI (fun t => B t ≠ -1 ∧ B t = b) K (d + i) (fqbest K B b d i a) := by
  intro d
  induction d with
  | zero => intro i a h; rw [Nat.zero_add]; exact h
  | succ d ih =>
    intro i a h
    rw [show d + 1 + i = d + (i + 1) by omega]
    cases a with
    | none =>
      rw [fqbest_none]
      apply ih
      split
      · rename_i h1
        refine ⟨by omega, h1, fun t ht hp => ?_⟩
        rcases Nat.lt_or_ge t i with q | q
        · exact absurd hp (h t q)
        · rw [show t = i by omega]; exact ⟨Int32.le_refl _, fun q => by omega⟩
      · rename_i h1
        intro t ht hp
        rcases Nat.lt_or_ge t i with q | q
        · exact h t q hp
        · rw [show t = i by omega] at hp; exact h1 hp
    | some j =>
      rw [fqbest_some]
      apply ih
      obtain ⟨a1, a2, a3⟩ := h
      split
      · rename_i h1
        refine ⟨by omega, ⟨h1.1, h1.2.1⟩, fun t ht hp => ?_⟩
        rcases Nat.lt_or_ge t i with q | q
        · have h2 := Int32.lt_of_lt_of_le h1.2.2 (a3 t q hp).1
          exact ⟨Int32.le_of_lt h2, fun _ => h2⟩
        · rw [show t = i by omega]; exact ⟨Int32.le_refl _, fun q => by omega⟩
      · rename_i h1
        refine ⟨by omega, a2, fun t ht hp => ?_⟩
        rcases Nat.lt_or_ge t i with q | q
        · exact a3 t q hp
        · rw [show t = i by omega] at hp ⊢
          exact ⟨Int32.not_lt.mp fun q9 => h1 ⟨hp.1, hp.2, q9⟩, fun q => by omega⟩
def bestD (n : Nat) (k : Nat → Int32) (d : Nat) (a : Option Nat) : Prop := match a with
  | none => ∀ t, d ≤ t → t < n → k t = -1
  | some j => d ≤ j ∧ j < n ∧ k j ≠ -1 ∧ ∀ t, d ≤ t → t < n → k t ≠ -1 → k j ≤ k t ∧ (t < j → k j < k t)
theorem mqbest_inv {n : Nat} {K : Nat → Int32} : ∀ (d : Nat) (a : Option Nat), d ≤ n → bestD n K d a → bestD n K 0 (mqbest K d a) := by
  intro d
  induction d with
  | zero => exact fun a _ h => h
  | succ d ih =>
    intro a hd h
    cases a with
    | none =>
      rw [mqbest_none]
      apply ih _ (by omega)
      split
      · rename_i h1
        refine ⟨Nat.le_refl _, by omega, h1, fun t ht h2 hp => ?_⟩
        rcases Nat.eq_or_lt_of_le ht with q | q
        · subst q; exact ⟨Int32.le_refl _, fun q => by omega⟩
        · exact absurd (h t q h2) hp
      · rename_i h1
        intro t ht h2
        rcases Nat.eq_or_lt_of_le ht with q | q
        · subst q; exact Classical.not_not.mp h1
        · exact h t q h2
    | some j =>
      rw [mqbest_some]
      apply ih _ (by omega)
      obtain ⟨a1, a2, a3, a4⟩ := h
      split
      · rename_i h1
        refine ⟨Nat.le_refl _, by omega, h1.1, fun t ht h2 hp => ?_⟩
        rcases Nat.eq_or_lt_of_le ht with q | q
        · subst q; exact ⟨Int32.le_refl _, fun q => by omega⟩
        · exact ⟨Int32.le_trans h1.2 (a4 t q h2 hp).1, fun q => by omega⟩
      · rename_i h1
        refine ⟨by omega, a2, a3, fun t ht h2 hp => ?_⟩
        rcases Nat.eq_or_lt_of_le ht with q | q
        · subst q
          have h5 := Int32.not_le.mp fun q9 => h1 ⟨hp, q9⟩
          exact ⟨Int32.le_of_lt h5, fun _ => h5⟩
        · exact a4 t q h2 hp
theorem mqbest_min {n : Nat} {K : Nat → Int32} {j : Nat} (e : mqbest K n none = some j) : fqmin n (fun t => K t ≠ -1) K j := by
  have h := mqbest_inv (n := n) (K := K) n none (Nat.le_refl _) (fun t h1 h2 => by omega)
  rw [e] at h
  exact ⟨h.2.1, h.2.2.1, fun i hi hp => h.2.2.2 i (Nat.zero_le _) hi hp⟩
/-- spread, in one step -/
theorem fqspread_spec {n : Nat} {b : Int32} : ∀ (d i : Nat) (q : fqQ), i + d ≤ n → (∀ t, t < n → q.2.2.2.2.2.1 t = -1 ∨ ∃ c, c < 32 ∧ q.2.2.2.2.2.1 t = nI c) → MC n q.2.2.2.2.2.1 q.2.2.2.2.2.2 →
    (∀ t, (fqspread b d i q).2.2.2.2.2.1 t = if i ≤ t ∧ t < i + d ∧ q.2.2.2.2.2.1 t = b then nI (fqk (q.2.2.2.2.1 t) q.1) else q.2.2.2.2.2.1 t) ∧ (fqspread b d i q).2.2.1 = mqcnt (fun t => decide (q.2.2.2.2.2.1 t = b)) d i q.2.2.1 ∧ MC n (fqspread b d i q).2.2.2.2.2.1 (fqspread b d i q).2.2.2.2.2.2 ∧ (fqspread b d i q).1 = q.1 ∧ (fqspread b d i q).2.2.2.2.1 = q.2.2.2.2.1 ∧ (fqspread b d i q).2.1 = q.2.1 ∧ (fqspread b d i q).2.2.2.1 = q.2.2.2.1 := by
  intro d
  induction d with
  | zero =>
    intro i q _ _ hm
    exact ⟨fun t => by rw [if_neg (by omega)]; rfl, rfl, hm, rfl, rfl, rfl, rfl⟩
  | succ d ih =>
    intro i q hi hr hm
    rw [fqspread_s]
    by_cases e : q.2.2.2.2.2.1 i = b
    · rw [if_pos e]
      have hB := fqput_B q i
      obtain ⟨c1, c2⟩ := fqput_K q i
      obtain ⟨s1, s2, s3⟩ := fqput_sc q i
      have hm1 := fqput_MC (n := n) (q := q) (j := i) (by omega) (hr i (by omega)) hm
      obtain ⟨a1, a2, a3, a4, a5, a6, a7⟩ := ih (i + 1) (fqput q i) (by omega) (fun t ht => by
        rw [hB]
        by_cases e1 : t = i
        · rw [if_pos e1]; exact Or.inr ⟨_, fqk_lt _ _, rfl⟩
        · rw [if_neg e1]; exact hr t ht) hm1
      refine ⟨fun t => ?_, ?_, a3, a4.trans c2, a5.trans c1, a6.trans s1, a7.trans s3⟩
      · rw [a1, hB, c1, c2]
        by_cases e1 : t = i
        · subst e1
          rw [if_pos rfl, if_neg (by omega), if_pos ⟨Nat.le_refl _, by omega, e⟩]
        · rw [if_neg e1]
          by_cases e2 : i + 1 ≤ t ∧ t < i + 1 + d ∧ q.2.2.2.2.2.1 t = b
          · rw [if_pos e2, if_pos ⟨by omega, by omega, e2.2.2⟩]
          · rw [if_neg e2, if_neg (fun h => e2 ⟨by omega, by omega, h.2.2⟩)]
      · rw [a2, s2, mqcnt_s, if_pos (decide_eq_true e), mqcnt_eq, mqcnt_eq]
        congr 2
        have key : ∀ d' i', i < i' → fqfwd (fun t => decide ((fqput q i).2.2.2.2.2.1 t = b)) d' i' = fqfwd (fun t => decide (q.2.2.2.2.2.1 t = b)) d' i' := by
          intro d'
          induction d' with
          | zero => intro i' _; rfl
          | succ d' ih' =>
            intro i' h'
            show (if decide ((fqput q i).2.2.2.2.2.1 i' = b) = true then 1 else 0) + _ = (if decide (q.2.2.2.2.2.1 i' = b) = true then 1 else 0) + _
            rw [ih' (i' + 1) (by omega), hB, if_neg (show ¬ i' = i by omega)]
        exact key d (i + 1) (by omega)
    · rw [if_neg e]
      obtain ⟨a1, a2, a3, a4, a5, a6, a7⟩ := ih (i + 1) q (by omega) hr hm
      refine ⟨fun t => ?_, ?_, a3, a4, a5, a6, a7⟩
      · rw [a1]
        by_cases e1 : t = i
        · subst e1
          rw [if_neg (by omega), if_neg (fun h => e h.2.2)]
        · by_cases e2 : i + 1 ≤ t ∧ t < i + 1 + d ∧ q.2.2.2.2.2.1 t = b
          · rw [if_pos e2, if_pos ⟨by omega, by omega, e2.2.2⟩]
          · rw [if_neg e2, if_neg (fun h => e2 ⟨by omega, by omega, h.2.2⟩)]
      · rw [a2, mqcnt_s, if_neg (by simp [e]), Int32.add_zero]
theorem QR_take {n : Nat} {q : fqQ} {lo pm ca : Int32} {mK : Nat → Int32} {j : Nat} (hj : j < n) (h0 : mK j ≠ -1) (h : QR n q (lo, pm, ca, mK)) : QR n (fqtake q j) (lo, pm, ca, upd mK j (-1)) := by
  obtain ⟨h1, h2, h3, h4, h5, h6⟩ := h
  dsimp only at h1 h2 h3 h4 h5
  obtain ⟨a1, a2, a3⟩ := fqtake_sc q j
  obtain ⟨b1, b2⟩ := fqtake_K q j
  refine ⟨by rw [b2]; exact h1, h2, by rw [a2]; exact h3, fun i hil => ?_, ?_, fqtake_MC hj (h4 j hj).range h6⟩
  · rw [b1, fqtake_B]
    show QI lo (q.2.2.2.2.1 i) (if i = j then -1 else q.2.2.2.2.2.1 i) (upd mK j (-1) i)
    by_cases e : i = j
    · subst e
      rw [if_pos rfl, pk_us]
      exact Or.inl ⟨rfl, rfl⟩
    · rw [if_neg e, pk_un e]
      exact h4 i hil
  · rw [a1, h5]
    show _ = nI (fqcnt (mqhas (upd mK j (-1))) n)
    rw [fqcnt_on (p := mqhas (upd mK j (-1))) (q := mqhas mK) hj (by unfold mqhas; rw [pk_us]; rfl) (by simp [mqhas, h0]) (fun i _ hi => by unfold mqhas; rw [pk_un hi]), nI_pred]
theorem QR_pop {n : Nat} (hn : n ≤ 40) {q : fqQ} {m : mqQ} (h : QR n q m) : (fqpop n q).1 = (mqpop n m).1 ∧ QR n (fqpop n q).2 (mqpop n m).2 := by
  obtain ⟨h1, h2, h3, h4, h5, h6⟩ := id h
  unfold fqpop mqpop
  cases e : mqbest m.2.2.2 n none with
  | none =>
    have hall := (mqbest_no n none e).2
    cases e2 : fqbest q.2.2.2.2.1 q.2.2.2.2.2.1 (fqopt (fqlow q.2.2.2.2.2.2 32 0)) n 0 none with
    | none => exact ⟨rfl, h⟩
    | some j =>
      obtain ⟨-, hj, hb, -⟩ := (fqbest_in n 0 none j e2).resolve_left (fun h => by cases h)
      exact absurd ((h4 j (by omega)).away.mpr (hall j (by omega))) hb
  | some j =>
    have hmin := mqbest_min e
    obtain ⟨hj, hkj, hle⟩ := hmin
    have hkj : m.2.2.2 j ≠ -1 := hkj
    obtain ⟨k1, k2, k3⟩ := (h4 j hj).there hkj
    have hj0 : ¬ m.2.2.2 j < 0 := fq_ge0 k2 h2
    have hbl := fqk_lt (m.2.2.2 j) m.1
    -- the lowest bucket is j's
    have hpos : ∀ b, b < 32 → (0 < q.2.2.2.2.2.2 b ↔ ∃ i, i < n ∧ q.2.2.2.2.2.1 i = nI b) := by
      intro b hb
      have hc := fqcnt_le (fun i => decide (q.2.2.2.2.2.1 i = nI b)) n
      rw [h6 b hb]
      constructor
      · intro h7
        have h8 : 0 < fqcnt (fun i => decide (q.2.2.2.2.2.1 i = nI b)) n := (nI_ltI (by decide) (by omega)).mp h7
        obtain ⟨i, hi, h9⟩ := fqcnt_ex h8
        exact ⟨i, hi, of_decide_eq_true h9⟩
      · rintro ⟨i, hi, h9⟩
        exact (nI_ltI (by decide) (by omega)).mpr (fqcnt_pos hi (decide_eq_true h9))
    have hlow : fqlow q.2.2.2.2.2.2 32 0 = some (fqk (m.2.2.2 j) m.1) := by
      cases e3 : fqlow q.2.2.2.2.2.2 32 0 with
      | none => exact absurd ((hpos _ hbl).mpr ⟨j, hj, k3⟩) (fqlow_no 32 0 e3 _ (Nat.zero_le _) (by omega))
      | some b =>
        obtain ⟨-, b1, b2, b3⟩ := fqlow_yes 32 0 b e3
        obtain ⟨i, hi, h9⟩ := (hpos b (by omega)).mp b2
        have hti : m.2.2.2 i ≠ -1 := fun q9 => by
          rw [(h4 i hi).away.mpr q9] at h9
          exact fq_nm1 (by omega) h9.symm
        obtain ⟨c1, c2, c3⟩ := (h4 i hi).there hti
        have hbi : fqk (m.2.2.2 i) m.1 = b := (fqk_eq (by omega)).mp (c3.symm.trans h9)
        have hle1 : fqk (m.2.2.2 j) m.1 ≤ b := by
          rw [← hbi]
          exact fqbx_mono ((fqn_le h2 hj0).mp k2) ((fqn_le hj0 (fq_ge0 c2 h2)).mp (hle i hi hti).1)
        have hge1 : ¬ fqk (m.2.2.2 j) m.1 < b := fun q9 => b3 _ (Nat.zero_le _) q9 ((hpos _ hbl).mpr ⟨j, hj, k3⟩)
        rw [show b = fqk (m.2.2.2 j) m.1 by omega]
    have hbest : fqbest q.2.2.2.2.1 q.2.2.2.2.2.1 (fqopt (fqlow q.2.2.2.2.2.2 32 0)) n 0 none = some j := by
      rw [hlow]
      have hinv := fqbest_inv (K := q.2.2.2.2.1) (B := q.2.2.2.2.2.1) (b := nI (fqk (m.2.2.2 j) m.1)) n 0 none (fun t h => by omega)
      rw [Nat.add_zero] at hinv
      have hpj : q.2.2.2.2.2.1 j ≠ -1 ∧ q.2.2.2.2.2.1 j = nI (fqk (m.2.2.2 j) m.1) := ⟨fun q9 => hkj ((h4 j hj).away.mp q9), k3⟩
      show fqbest _ _ (nI (fqk (m.2.2.2 j) m.1)) n 0 none = some j
      cases e4 : fqbest q.2.2.2.2.1 q.2.2.2.2.2.1 (nI (fqk (m.2.2.2 j) m.1)) n 0 none with
      | none => rw [e4] at hinv; exact absurd hpj (hinv j hj)
      | some j' =>
        rw [e4] at hinv
        have hm2 : fqmin n (fun t => q.2.2.2.2.2.1 t ≠ -1 ∧ q.2.2.2.2.2.1 t = nI (fqk (m.2.2.2 j) m.1)) q.2.2.2.2.1 j := by
          refine ⟨hj, hpj, fun i hi hp => ?_⟩
          have hti : m.2.2.2 i ≠ -1 := fun q9 => hp.1 ((h4 i hi).away.mpr q9)
          rw [k1, ((h4 i hi).there hti).1]
          exact hle i hi hti
        have hinv : fqmin n (fun t => q.2.2.2.2.2.1 t ≠ -1 ∧ q.2.2.2.2.2.1 t = nI (fqk (m.2.2.2 j) m.1)) q.2.2.2.2.1 j' := hinv
        rw [fqmin_uniq hinv hm2]
    rw [hbest]
    dsimp only
    rw [hlow]
    refine ⟨rfl, ?_⟩
    show QR n (fqtake (if nI (fqk (m.2.2.2 j) m.1) ≤ 0 then (q.2.2.2.2.1 j, q.2) else fqspread (nI (fqk (m.2.2.2 j) m.1)) n 0 (q.2.2.2.2.1 j, q.2)) j) _
    by_cases e5 : nI (fqk (m.2.2.2 j) m.1) ≤ 0
    · rw [if_pos e5, if_pos e5]
      have hz : fqk (m.2.2.2 j) m.1 = 0 := by
        have := (nI_leI (by omega) (by decide)).mp (show nI (fqk (m.2.2.2 j) m.1) ≤ nI 0 from e5)
        omega
      have hlo : m.2.2.2 j = m.1 := fqn_inj hj0 h2 ((fqbx_0 _ _).mp hz)
      exact QR_take hj hkj ⟨by show q.2.2.2.2.1 j = m.1; rw [k1, hlo], h2, h3, h4, h5, h6⟩
    · rw [if_neg e5, if_neg e5]
      have hb0 : 0 < fqk (m.2.2.2 j) m.1 := by
        rcases Nat.eq_zero_or_pos (fqk (m.2.2.2 j) m.1) with q9 | q9
        · rw [q9] at e5; exact absurd (by decide) e5
        · exact q9
      apply QR_take hj hkj
      obtain ⟨a1, a2, a3, a4, a5, a6, a7⟩ := fqspread_spec (b := nI (fqk (m.2.2.2 j) m.1)) n 0 (q.2.2.2.2.1 j, q.2) (by omega) (fun t ht => (h4 t ht).range) h6
      refine ⟨by rw [a4]; exact k1, hj0, ?_, fun i hi => ?_, by rw [a6]; exact h5, a3⟩
      · rw [a2]
        show mqcnt _ n 0 q.2.2.1 = mqcnt _ n 0 m.2.1
        rw [h3, mqcnt_n, mqcnt_n]
        congr 2
        refine fqcnt_eq fun i hi => ?_
        unfold mqat
        show decide (q.2.2.2.2.2.1 i = nI (fqk (m.2.2.2 j) m.1)) = _
        by_cases e6 : m.2.2.2 i = -1
        · rw [(h4 i hi).away.mpr e6, decide_eq_false (fun q9 => fq_nm1 (by omega) q9.symm), decide_eq_false (fun q9 => q9.1 e6)]
        · rw [((h4 i hi).there e6).2.2]
          by_cases e7 : nI (fqk (m.2.2.2 i) m.1) = nI (fqk (m.2.2.2 j) m.1)
          · rw [decide_eq_true e7, decide_eq_true ⟨e6, e7⟩]
          · rw [decide_eq_false e7, decide_eq_false (fun q9 => e7 q9.2)]
      · rw [a1, a5]
        show QI (m.2.2.2 j) (q.2.2.2.2.1 i) (if 0 ≤ i ∧ i < 0 + n ∧ q.2.2.2.2.2.1 i = nI (fqk (m.2.2.2 j) m.1) then nI (fqk (q.2.2.2.2.1 i) (q.2.2.2.2.1 j)) else q.2.2.2.2.2.1 i) (m.2.2.2 i)
        by_cases e6 : m.2.2.2 i = -1
        · rw [if_neg (fun q9 => by rw [(h4 i hi).away.mpr e6] at q9; exact fq_nm1 (by omega) q9.2.2.symm)]
          exact Or.inl ⟨e6, (h4 i hi).away.mpr e6⟩
        · obtain ⟨c1, c2, c3⟩ := (h4 i hi).there e6
          have hji := (hle i hi e6).1
          refine Or.inr ⟨e6, c1, hji, ?_⟩
          rw [c1, k1, c3]
          by_cases e7 : nI (fqk (m.2.2.2 i) m.1) = nI (fqk (m.2.2.2 j) m.1)
          · rw [if_pos ⟨Nat.zero_le _, by omega, e7⟩]
          · rw [if_neg (fun q9 => e7 q9.2.2)]
            congr 1
            have hi0 : ¬ m.2.2.2 i < 0 := fq_ge0 c2 h2
            have hmono : fqk (m.2.2.2 j) m.1 ≤ fqk (m.2.2.2 i) m.1 := fqbx_mono ((fqn_le h2 hj0).mp k2) ((fqn_le hj0 hi0).mp hji)
            have hne : fqk (m.2.2.2 i) m.1 ≠ fqk (m.2.2.2 j) m.1 := fun q9 => e7 (by rw [q9])
            exact (fqbx_stay (f := fqn m.1) (g := fqn (m.2.2.2 j)) (k := fqn (m.2.2.2 i)) (by show fqk (m.2.2.2 j) m.1 < fqk (m.2.2.2 i) m.1; omega)).symm
end
section
/-! RUN ON BOTH SIDES, STEP BY STEP -/
theorem mqleast_spec {K : Nat → Int32} : ∀ (d i : Nat) (a : Int32), (mqleast K d i a = a ∨ ∃ t, i ≤ t ∧ t < d + i ∧ K t ≠ -1 ∧ mqleast K d i a = K t) ∧ mqleast K d i a ≤ a ∧ ∀ t, i ≤ t → t < d + i → K t ≠ -1 → mqleast K d i a ≤ K t := by
  intro d
  induction d with
  | zero => intro i a; exact ⟨Or.inl rfl, Int32.le_refl _, fun t h1 h2 => by omega⟩
  | succ d ih =>
    intro i a
    rw [mqleast_s]
    by_cases h : K i ≠ -1 ∧ K i < a
    · rw [if_pos h]
      obtain ⟨a1, a2, a3⟩ := ih (i + 1) (K i)
      refine ⟨?_, Int32.le_trans a2 (Int32.le_of_lt h.2), fun t h1 h2 h3 => ?_⟩
      · rcases a1 with q | ⟨t, q1, q2, q3, q4⟩
        · exact Or.inr ⟨i, Nat.le_refl _, by omega, h.1, q⟩
        · exact Or.inr ⟨t, by omega, by omega, q3, q4⟩
      · rcases Nat.eq_or_lt_of_le h1 with q | q
        · subst q; exact a2
        · exact a3 t q (by omega) h3
    · rw [if_neg h]
      obtain ⟨a1, a2, a3⟩ := ih (i + 1) a
      refine ⟨?_, a2, fun t h1 h2 h3 => ?_⟩
      · rcases a1 with q | ⟨t, q1, q2, q3, q4⟩
        · exact Or.inl q
        · exact Or.inr ⟨t, by omega, by omega, q3, q4⟩
      · rcases Nat.eq_or_lt_of_le h1 with q | q
        · subst q
          exact Int32.le_trans a2 (Int32.not_lt.mp fun q9 => h ⟨h3, q9⟩)
        · exact a3 t q (by omega) h3
theorem fq_max (x : Int32) : x ≤ 2147483647 := by
  rw [Int32.le_iff_toInt_le]
  have h := Int32.toInt_lt x
  have e : (2147483647 : Int32).toInt = 2147483647 := by decide
  rw [e]
  omega
theorem mqleast_min {n : Nat} {K : Nat → Int32} {j : Nat} (h : fqmin n (fun t => K t ≠ -1) K j) : mqleast K n 0 2147483647 = K j := by
  obtain ⟨a1, a2, a3⟩ := mqleast_spec (K := K) n 0 2147483647
  have h1 := a3 j (Nat.zero_le _) (by have := h.1; omega) h.2.1
  rcases a1 with q | ⟨t, q1, q2, q3, q4⟩
  · rw [q] at h1 ⊢
    exact Int32.le_antisymm h1 (fq_max _)
  · rw [q4] at h1 ⊢
    exact Int32.le_antisymm h1 (h.2.2 t (by omega) q3).1
/-- the popped item, its key, the new floor -/
theorem mqpop_full {n : Nat} {m : mqQ} (h2 : ¬ m.1 < 0) (hlo : ∀ i, i < n → m.2.2.2 i ≠ -1 → m.1 ≤ m.2.2.2 i) (h : 0 < mqcnt (mqhas m.2.2.2) n 0 0) : ∃ j, j < n ∧ m.2.2.2 j ≠ -1 ∧ (mqpop n m).1 = nI j ∧ (mqpop n m).2.2.2.2 = upd m.2.2.2 j (-1) ∧ (mqpop n m).2.1 = m.2.2.2 j ∧ mqleast m.2.2.2 n 0 2147483647 = m.2.2.2 j := by
  obtain ⟨j, e⟩ := mqbest_yes h
  have hmin := mqbest_min e
  refine ⟨j, hmin.1, hmin.2.1, ?_, ?_, ?_, mqleast_min hmin⟩
  · unfold mqpop; rw [e]
  · unfold mqpop; rw [e]
    dsimp only
    split <;> rfl
  · unfold mqpop; rw [e]
    dsimp only
    have hl := hlo j hmin.1 hmin.2.1
    split
    · rename_i h5
      have hbl := fqk_lt (m.2.2.2 j) m.1
      have hz : fqk (m.2.2.2 j) m.1 = 0 := by
        have := (nI_leI (by omega) (by decide)).mp (show nI (fqk (m.2.2.2 j) m.1) ≤ nI 0 from h5)
        omega
      exact (fqn_inj (fq_ge0 hl h2) h2 ((fqbx_0 _ _).mp hz)).symm
    · rfl
/-- the relation within run -/
def RN (n : Nat) (r : fqR) (s : mqR) : Prop := QR n r.1 s.1 ∧ mqT n s ∧ (∀ i, i < n → (r.2.1 i = -1 ↔ s.2.2.2 i = 0)) ∧ (∀ i, i < n → s.2.2.2 i ≠ 0 → r.2.1 i = s.2.1 i) ∧ ∀ i, i < n → r.2.2 i = s.2.2.1 i
theorem QR.lo {n : Nat} {q : fqQ} {m : mqQ} (h : QR n q m) : ∀ i, i < n → m.2.2.2 i ≠ -1 → m.1 ≤ m.2.2.2 i := fun i hi h0 => ((h.2.2.2.1 i hi).there h0).2.1
theorem RN_try {n : Nat} (hn : n ≤ 40) {r : fqR} {s : mqR} {t v : Nat} {w : Int32} (ht : t < n) (hv : v < n) (hT : s.2.2.2 t ≠ 0) (h : RN n r s) : RN n (fqtry n r t (nI v) w) (mqreach n s t v w) := by
  obtain ⟨h1, h2, h3, h4, h5⟩ := id h
  have hq := mqreach_T (u := t) (w := w) hn hv h2
  unfold fqtry mqreach
  unfold mqreach at hq
  rw [fqn_nI (by omega), h4 t ht hT]
  have hi := h1.2.2.2.1 v hv
  by_cases e1 : s.2.2.2 v = 0
  · rw [if_pos e1] at hq ⊢
    rw [if_pos ((h3 v hv).mpr e1)]
    by_cases e2 : 2147483647 < (s.2.1 t).toInt64 + w.toInt64
    · rw [if_pos e2, if_pos e2]; exact h
    · rw [if_neg e2] at hq ⊢
      rw [if_neg e2]
      by_cases e3 : s.1.2.2.2 v = -1
      · rw [if_pos e3] at hq ⊢
        rw [if_pos (hi.away.mpr e3)]
        refine ⟨(QR_push hn h1 _ _).2, hq.1, h3, h4, fun i hil => ?_⟩
        show upd r.2.2 v (nI t) i = upd s.2.2.1 v (nI t) i
        unfold upd
        rw [h5 i hil]
      · rw [if_neg e3] at hq ⊢
        rw [if_neg (fun q9 => e3 (hi.away.mp q9)), (hi.there e3).1]
        by_cases e4 : (s.2.1 t).toInt64 + w.toInt64 < (s.1.2.2.2 v).toInt64
        · rw [if_pos e4] at hq ⊢
          rw [if_pos e4]
          refine ⟨(QR_lower hn h1 _ _).2, hq.1, h3, h4, fun i hil => ?_⟩
          show upd r.2.2 v (nI t) i = upd s.2.2.1 v (nI t) i
          unfold upd
          rw [h5 i hil]
        · rw [if_neg e4, if_neg e4]; exact h
  · rw [if_neg e1, if_neg (fun q9 => e1 ((h3 v hv).mp q9))]
    exact h
/-- an item's arcs out of the rows, the latest first -/
def fqlist (F T Ln : Nat → Int32) (i : Nat) : Nat → List (Int32 × Int32)
  | 0 => []
  | d + 1 => if F d = nI i then (T d, Ln d) :: fqlist F T Ln i d else fqlist F T Ln i d
theorem fqlist_s (F T Ln : Nat → Int32) (i d : Nat) : fqlist F T Ln i (d + 1) = if F d = nI i then (T d, Ln d) :: fqlist F T Ln i d else fqlist F T Ln i d := rfl
theorem RN_sweep {n : Nat} (hn : n ≤ 40) {F T Ln : Nat → Int32} {ac j : Nat} (hj : j < n) (hnet : mqnet n ac F T) : ∀ (d : Nat) (r : fqR) (s : mqR), d ≤ ac → s.2.2.2 j ≠ 0 → RN n r s → RN n (fqtries n j (fqlist F T Ln j d) r) (mqsweep n F T Ln j d s) := by
  intro d
  induction d with
  | zero => exact fun r s _ _ h => h
  | succ d ih =>
    intro r s hd hT h
    rw [fqlist_s, mqsweep_s]
    by_cases e : F d = nI j
    · rw [if_pos e, if_pos e, fqtries_c]
      obtain ⟨v, hv, ev⟩ := (hnet d (by omega)).2
      rw [ev, fqn_nI (by omega)]
      have h1 := RN_try (w := Ln d) hn hj hv hT h
      have h2 := (mqreach_T (u := j) (w := Ln d) hn hv h.2.1).2
      exact ih _ _ (by omega) (by rw [h2]; exact hT) h1
    · rw [if_neg e, if_neg e]
      exact ih r s (by omega) hT h
theorem QR_size {n : Nat} {q : fqQ} {m : mqQ} (h : QR n q m) : q.2.1 = mqcnt (mqhas m.2.2.2) n 0 0 := by
  rw [mqcnt_n, h.2.2.2.2.1]
  show _ = nI 0 + _
  rw [nI_add, Nat.zero_add]
theorem RN_next {n : Nat} (hn : n ≤ 40) {F T Ln : Nat → Int32} {ac : Nat} (hnet : mqnet n ac F T) {as : Nat → List (Int32 × Int32)} (has : ∀ i, i < n → as i = fqlist F T Ln i ac) {r : fqR} {s : mqR} (h : RN n r s) (h0 : 0 < mqcnt (mqhas s.1.2.2.2) n 0 0) : RN n (fqnext n as r) (mqnext n F T Ln ac s) := by
  obtain ⟨h1, h2, h3, h4, h5⟩ := id h
  obtain ⟨j, hj, hk, e1, e2, e3, e4⟩ := mqpop_full h1.2.1 h1.lo h0
  obtain ⟨p1, p2⟩ := QR_pop hn h1
  unfold fqnext mqnext
  rw [p1, e1, fqat_some hj (by omega), fqn_nI (by omega), e4]
  dsimp only
  rw [has j hj]
  have hfl : (fqpop n r.1).2.1 = s.1.2.2.2 j := by rw [p2.1, e3]
  have hne : s.1.2.2.2 j ≠ -1 := hk
  apply RN_sweep hn hj hnet ac _ _ (Nat.le_refl _)
  · show upd s.2.2.2 j 1 j ≠ 0
    rw [pk_us]; decide
  · refine ⟨p2, mqpop_T h2 hn hj hk e2, fun i hil => ?_, fun i hil hi => ?_, h5⟩
    · show upd r.2.1 j (fqpop n r.1).2.1 i = -1 ↔ upd s.2.2.2 j 1 i = 0
      by_cases e : i = j
      · subst e
        rw [pk_us, pk_us, hfl]
        exact ⟨fun q9 => absurd q9 hne, fun q9 => absurd q9 (by decide)⟩
      · rw [pk_un e, pk_un e]; exact h3 i hil
    · show upd r.2.1 j (fqpop n r.1).2.1 i = upd s.2.1 j (s.1.2.2.2 j) i
      have hi : upd s.2.2.2 j 1 i ≠ 0 := hi
      by_cases e : i = j
      · subst e; rw [pk_us, pk_us, hfl]
      · rw [pk_un e] at hi ⊢
        rw [pk_un e]
        exact h4 i hil hi
theorem RN_mu0 {n : Nat} {s : mqR} (h : mqT n s) (h0 : mqmu n s = 0) : ¬ 0 < mqcnt (mqhas s.1.2.2.2) n 0 0 := fun h1 => by
  obtain ⟨j, hj, hk, -, -⟩ := mqpop_some h1
  have h2 := fqcnt_pos (p := fun i => decide (s.2.2.2 i = 0)) hj (by simp [h.2 j hj hk])
  unfold mqmu at h0
  omega
theorem RN_rounds {n : Nat} (hn : n ≤ 40) {F T Ln : Nat → Int32} {ac : Nat} (hnet : mqnet n ac F T) {as : Nat → List (Int32 × Int32)} (has : ∀ i, i < n → as i = fqlist F T Ln i ac) : ∀ (d d' : Nat) (r : fqR) (s : mqR), mqmu n s ≤ d → mqmu n s < d' → RN n r s → RN n (fqrounds n as d r) (mqloop n F T Ln ac d' s) ∧ ¬ 0 < mqcnt (mqhas (mqloop n F T Ln ac d' s).1.2.2.2) n 0 0 := by
  intro d
  induction d with
  | zero =>
    intro d' r s hm hm' h
    have h0 := RN_mu0 h.2.1 (by omega)
    cases d' with
    | zero => omega
    | succ d' =>
      rw [mqloop_s, if_neg h0]
      exact ⟨h, h0⟩
  | succ d ih =>
    intro d' r s hm hm' h
    cases d' with
    | zero => omega
    | succ d' =>
      rw [fqrounds_s, mqloop_s, QR_size h.1]
      by_cases h0 : 0 < mqcnt (mqhas s.1.2.2.2) n 0 0
      · rw [if_pos h0, if_pos h0]
        have h1 := (mqnext_T (Ln := Ln) hn hnet h.2.1 h0).2
        exact ih d' _ _ (by omega) (by omega) (RN_next hn hnet has h h0)
      · rw [if_neg h0, if_neg h0]
        exact ⟨h, h0⟩
theorem QR_empty {n : Nat} (hn : n ≤ 40) {q : fqQ} {m : mqQ} (h : q.2.2.1 = m.2.1) : QR n (fqempty n q) (mqclear m) := by
  refine ⟨rfl, (by decide : ¬ (0 : Int32) < 0), h, fun i hi => Or.inl ⟨if_pos (by omega), if_pos hi⟩, ?_, fun b hb => ?_⟩
  · show (0 : Int32) = nI _
    rw [fqcnt_0 (p := mqhas (mqclear m).2.2.2) (fun i hi => decide_eq_false (fun q9 => q9 (if_pos (show i < 40 by omega))))]
    rfl
  · show (if b < 32 then (0 : Int32) else _) = _
    rw [if_pos hb, fqcnt_0 (fun i hi => decide_eq_false (fun q9 => fq_nm1 (by omega) (q9.symm.trans (if_pos hi))))]
    rfl
/-- where run's rounds end, on both sides -/
theorem RN_run {n : Nat} (hn : n ≤ 40) {F T Ln : Nat → Int32} {ac : Nat} (hnet : mqnet n ac F T) {as : Nat → List (Int32 × Int32)} (has : ∀ i, i < n → as i = fqlist F T Ln i ac) {q : fqQ} {m : mqQ} (h : q.2.2.1 = m.2.1) (j : Nat) (Ds Bf Wy Fo Tk : Nat → Int32) :
    RN n (fqrounds n as n ((fqpush n (fqempty n q) (nI j) 0).2, fqfill n (-1) Ds, fqfill n (-1) Bf)) (mqloop n F T Ln ac (n + 1) ((mqpush n (mqclear m) (nI j) 0).2, Wy, fqfill 40 (-1) Fo, fqfill 40 0 Tk)) ∧ ¬ 0 < mqcnt (mqhas (mqloop n F T Ln ac (n + 1) ((mqpush n (mqclear m) (nI j) 0).2, Wy, fqfill 40 (-1) Fo, fqfill 40 0 Tk)).1.2.2.2) n 0 0 := by
  refine RN_rounds hn hnet has n (n + 1) _ _ (fqcnt_le _ _) (mqmu_le _ _) ⟨(QR_push hn (QR_empty hn h) _ _).2, mqstart_T hn (mqclear_S hn m), fun i hi => ?_, fun i hi h0 => ?_, fun i hi => ?_⟩
  · show (if i < n then (-1 : Int32) else Ds i) = -1 ↔ (if i < 40 then (0 : Int32) else Tk i) = 0
    rw [if_pos hi, if_pos (by omega)]
    exact ⟨fun _ => rfl, fun _ => rfl⟩
  · exact absurd (show (if i < 40 then (0 : Int32) else Tk i) = 0 from if_pos (by omega)) h0
  · show (if i < n then (-1 : Int32) else Bf i) = (if i < 40 then (-1 : Int32) else Fo i)
    rw [if_pos hi, if_pos (by omega)]
theorem QR_run {n : Nat} (hn : n ≤ 40) {F T Ln : Nat → Int32} {ac : Nat} (hnet : mqnet n ac F T) {as : Nat → List (Int32 × Int32)} (has : ∀ i, i < n → as i = fqlist F T Ln i ac) {r : fqR} {x : mqX} (h : QR n r.1 x.1.1) (k : Int32) : QR n (fqrun n as r k).2.1 (mqrun n F T Ln ac x k).2.1.1 := by
  unfold fqrun mqrun
  cases e : fqat n k with
  | none => exact h
  | some j =>
    have h1 := (RN_run hn hnet has h.2.2.1 j r.2.1 r.2.2 x.1.2.1 x.1.2.2.1 x.1.2.2.2).1.1
    dsimp only
    split
    · exact h1
    · exact h1
/-- the lists behind an arc -/
theorem fqlist_up {F T Ln : Nat → Int32} {i ac : Nat} {u v w : Int32} : ∀ d, d ≤ ac → fqlist (upd F ac u) (upd T ac v) (upd Ln ac w) i d = fqlist F T Ln i d := by
  intro d
  induction d with
  | zero => exact fun _ => rfl
  | succ d ih =>
    intro hd
    rw [fqlist_s, fqlist_s, ih (by omega), pk_un (by omega), pk_un (by omega), pk_un (by omega)]
theorem fqlist_arc {n : Nat} {F T Ln : Nat → Int32} {ac j : Nat} {v w : Int32} {as : Nat → List (Int32 × Int32)} (hn : n ≤ 40) (hj : j < n) (has : ∀ i, i < n → as i = fqlist F T Ln i ac) : ∀ i, i < n → fqas as j v w i = fqlist (upd F ac (nI j)) (upd T ac v) (upd Ln ac w) i (ac + 1) := by
  intro i hi
  rw [fqlist_s, pk_us, pk_us, pk_us, fqlist_up ac (Nat.le_refl _)]
  unfold fqas
  by_cases e : i = j
  · subst e; rw [if_pos rfl, if_pos rfl, has i hi]
  · rw [if_neg e, if_neg (fun q9 => e ((nI_eq (by omega) (by omega)).mp q9).symm), has i hi]
end
section
/-! WHAT HOLDS BETWEEN THE CALLS: both queues are one, the arcs too -/
def lawI (n ar : Nat) (_gl : Int32) (ac : Nat) (r : fqR) (L : Nat → Option Nat) (pool : va_W) (as : Nat → List (Int32 × Int32)) (mx : mqX) (F T Ln : Nat → Int32) : Prop := lawB n ar ac r L pool as mx F T Ln ∧ QR n r.1 mx.1.1 ∧ ∀ i, i < n → as i = fqlist F T Ln i ac
section LI
variable {n ar : Nat} {gl : Int32} {ac : Nat} {q q1 : fqQ} {d d1 : (Nat → Int32) × (Nat → Int32)} {L : Nat → Option Nat} {pool : va_W} {as : Nat → List (Int32 × Int32)} {mq mq1 : mqQ} {w : (Nat → Int32) × (Nat → Int32) × (Nat → Int32)} {nh : (Nat → Int32) × Int32} {mx1 : mqX} {F T Ln : Nat → Int32} {x key r1 r2 : Int32}
theorem li_ch (h : lawI n ar gl ac (q, d) L pool as ((mq, w), nh) F T Ln) : ∀ i, i < n → fqch pool (L i) (as i) ∧ fqends n (as i) := h.1.1
theorem li_s (h : lawI n ar gl ac (q, d) L pool as ((mq, w), nh) F T Ln) : fqS n q := h.1.2.1
theorem li_ms (h : lawI n ar gl ac (q, d) L pool as ((mq, w), nh) F T Ln) : mqS n mq := h.1.2.2.1
theorem li_net (h : lawI n ar gl ac (q, d) L pool as ((mq, w), nh) F T Ln) : mqnet n ac F T := h.1.2.2.2.1
theorem li_ac (h : lawI n ar gl ac (q, d) L pool as ((mq, w), nh) F T Ln) : ac ≤ ar := h.1.2.2.2.2
theorem li_push (hn : n ≤ 40) (h : lawI n ar gl ac (q, d) L pool as ((mq, w), nh) F T Ln) (h1 : (r1, q1) = fqpush n q x key) (h2 : (r2, mq1) = mqpush n mq x key) : lawI n ar gl ac (q1, d) L pool as ((mq1, w), nh) F T Ln := by
  have e1 : q1 = (fqpush n q x key).2 := by rw [← h1]
  have e2 : mq1 = (mqpush n mq x key).2 := by rw [← h2]
  subst e1; subst e2
  exact ⟨⟨h.1.1, fqpush_S h.1.2.1, mqpush_S h.1.2.2.1, h.1.2.2.2⟩, (QR_push hn h.2.1 x key).2, h.2.2⟩
theorem li_eq_push (hn : n ≤ 40) (h : lawI n ar gl ac (q, d) L pool as ((mq, w), nh) F T Ln) (h1 : (r1, q1) = fqpush n q x key) (h2 : (r2, mq1) = mqpush n mq x key) : r1 = r2 := by
  have e := (QR_push hn h.2.1 x key).1
  rw [← h1, ← h2] at e
  exact e
theorem li_lower (hn : n ≤ 40) (h : lawI n ar gl ac (q, d) L pool as ((mq, w), nh) F T Ln) (h1 : (r1, q1) = fqlower n q x key) (h2 : (r2, mq1) = mqlower n mq x key) : lawI n ar gl ac (q1, d) L pool as ((mq1, w), nh) F T Ln := by
  have e1 : q1 = (fqlower n q x key).2 := by rw [← h1]
  have e2 : mq1 = (mqlower n mq x key).2 := by rw [← h2]
  subst e1; subst e2
  exact ⟨⟨h.1.1, fqlower_S h.1.2.1, mqlower_S h.1.2.2.1, h.1.2.2.2⟩, (QR_lower hn h.2.1 x key).2, h.2.2⟩
theorem li_eq_lower (hn : n ≤ 40) (h : lawI n ar gl ac (q, d) L pool as ((mq, w), nh) F T Ln) (h1 : (r1, q1) = fqlower n q x key) (h2 : (r2, mq1) = mqlower n mq x key) : r1 = r2 := by
  have e := (QR_lower hn h.2.1 x key).1
  rw [← h1, ← h2] at e
  exact e
theorem li_pop (hn : n ≤ 40) (h : lawI n ar gl ac (q, d) L pool as ((mq, w), nh) F T Ln) (h1 : (r1, q1) = fqpop n q) (h2 : (r2, mq1) = mqpop n mq) : lawI n ar gl ac (q1, d) L pool as ((mq1, w), nh) F T Ln := by
  have e1 : q1 = (fqpop n q).2 := by rw [← h1]
  have e2 : mq1 = (mqpop n mq).2 := by rw [← h2]
  subst e1; subst e2
  exact ⟨⟨h.1.1, fqpop_S h.1.2.1, mqpop_S h.1.2.2.1, h.1.2.2.2⟩, (QR_pop hn h.2.1).2, h.2.2⟩
theorem li_eq_pop (hn : n ≤ 40) (h : lawI n ar gl ac (q, d) L pool as ((mq, w), nh) F T Ln) (h1 : (r1, q1) = fqpop n q) (h2 : (r2, mq1) = mqpop n mq) : r1 = r2 := by
  have e := (QR_pop hn h.2.1).1
  rw [← h1, ← h2] at e
  exact e
theorem li_run (hn : n ≤ 40) (h : lawI n ar gl ac (q, d) L pool as ((mq, w), nh) F T Ln) (h1 : (r1, (q1, d1)) = fqrun n as (q, d) x) (h2 : (r2, mx1) = mqrun n F T Ln ac ((mq, w), nh) x) : lawI n ar gl ac (q1, d1) L pool as mx1 F T Ln := by
  have e1 : (q1, d1) = (fqrun n as (q, d) x).2 := by rw [← h1]
  have e2 : mx1 = (mqrun n F T Ln ac ((mq, w), nh) x).2 := by rw [← h2]
  rw [e1, e2]
  exact ⟨⟨h.1.1, fqrun_S h.1.2.1, mqrun_S hn h.1.2.2.2.1 h.1.2.2.1, h.1.2.2.2⟩, QR_run hn h.1.2.2.2.1 h.2.2 h.2.1 x, h.2.2⟩
theorem li_arc {Ds Bf : Nat → Int32} {xu xv w0 : Int32} {p : Nat} {Ne : Nat → Int32} {hw : Int32} (hn : n ≤ 40) (har : ar ≤ 300) (h : lawI n ar gl ac (q, Ds, Bf) L pool as ((mq, w), Ne, hw) F T Ln) (h0 : fqarcR n (nI ar) gl (nI ac) xu xv w0 = 0) : lawI n ar gl (ac + 1) (q, fqfill n (-1) Ds, fqfill n (-1) Bf) (va_up L (fqn xu) (some p)) (pool ++ [(p, .inr (1, [.int xv, .int w0, va_rf (L (fqn xu))]))]) (fqas as (fqn xu) xv w0) ((mq, w), Ne, 0) (upd F ac xu) (upd T ac xv) (upd Ln ac w0) := by
  obtain ⟨⟨j, hj, rfl⟩, ⟨k, hk, rfl⟩, hlt, -⟩ := fqarcR_0 har h.1.2.2.2.2 h0
  rw [fqn_nI (by omega)]
  exact ⟨lawB_arc h.1 hn hj hk hlt rfl, h.2.1, fqlist_arc hn hj h.2.2⟩
theorem li_start (hn : n ≤ 40) (_h1 : 1 ≤ n) : lawI n ar gl 0 ((0, 0, 0, 0, (fun _ => 0), fqfill n (-1) (fun _ => 0), (fun _ => 0)), fqfill n (-1) (fun _ => 0), fqfill n (-1) (fun _ => 0)) (fun _ => none) [] (fun _ => []) (((0, 0, 0, fqfill 40 (-1) (fun _ => 0)), (fun _ => 0), (fun _ => 0), (fun _ => 0)), (fun _ => 0), 0) (fun _ => 0) (fun _ => 0) (fun _ => 0) := by
  refine ⟨⟨fun i _ => ⟨rfl, fun a ha => absurd ha List.not_mem_nil⟩, ⟨(by decide : ¬ (0 : Int32) < 0), fun j hj => ⟨Or.inl (if_pos hj), fun h => absurd (if_pos hj) h⟩⟩, ⟨(by decide : ¬ (0 : Int32) < 0), fun j hj h => absurd (if_pos (by omega)) h⟩, fun k hk => absurd hk (Nat.not_lt_zero k), Nat.zero_le _⟩, ⟨rfl, (by decide : ¬ (0 : Int32) < 0), rfl, fun i hi => Or.inl ⟨if_pos (by omega), if_pos hi⟩, ?_, fun b hb => ?_⟩, fun i _ => rfl⟩
  · show (0 : Int32) = nI _
    rw [fqcnt_0 (p := mqhas (fqfill 40 (-1) (fun _ => 0))) (fun i hi => decide_eq_false (fun q9 => q9 (if_pos (show i < 40 by omega))))]
    rfl
  · show (0 : Int32) = _
    rw [fqcnt_0 (fun i hi => decide_eq_false (fun q9 => fq_nm1 (by omega) (q9.symm.trans (if_pos hi))))]
    rfl
end LI
section LE
variable {n ar : Nat} {gl : Int32} {ac : Nat} {fl pr pg ky : Int32} {K B M : Nat → Int32} {d : (Nat → Int32) × (Nat → Int32)} {L : Nat → Option Nat} {pool : va_W} {as : Nat → List (Int32 × Int32)} {lo pm ca : Int32} {mK : Nat → Int32} {w : (Nat → Int32) × (Nat → Int32) × (Nat → Int32)} {nh : (Nat → Int32) × Int32} {F T Ln : Nat → Int32} {x r1 r2 : Int32}
theorem li_eq_floor (_hn : n ≤ 40) (h : lawI n ar gl ac ((fl, pr, pg, ky, K, B, M), d) L pool as (((lo, pm, ca, mK), w), nh) F T Ln) (h1 : r1 = fl) (h2 : r2 = lo) : r1 = r2 := by
  rw [h1, h2]; exact h.2.1.1
theorem li_eq_size (_hn : n ≤ 40) (h : lawI n ar gl ac ((fl, pr, pg, ky, K, B, M), d) L pool as (((lo, pm, ca, mK), w), nh) F T Ln) (h1 : r1 = pr) (h2 : r2 = mqcnt (mqhas mK) n 0 0) : r1 = r2 := by
  rw [h1, h2]; exact QR_size h.2.1
theorem li_eq_placed (_hn : n ≤ 40) (h : lawI n ar gl ac ((fl, pr, pg, ky, K, B, M), d) L pool as (((lo, pm, ca, mK), w), nh) F T Ln) (h1 : r1 = pg) (h2 : r2 = pm) : r1 = r2 := by
  rw [h1, h2]; exact h.2.1.2.2.1
theorem li_eq_key (_hn : n ≤ 40) (h : lawI n ar gl ac ((fl, pr, pg, ky, K, B, M), d) L pool as (((lo, pm, ca, mK), w), nh) F T Ln) (h1 : r1 = fqget n K (fun j => decide (B j ≠ -1)) x) (h2 : r2 = fqget n mK (mqhas mK) x) : r1 = r2 := by
  rw [h1, h2]
  unfold fqget
  cases e : fqat n x with
  | none => rfl
  | some j =>
    dsimp only
    have hi := h.2.1.2.2.2.1 j (fqat_lt e).1
    dsimp only at hi
    unfold mqhas
    by_cases e1 : mK j = -1
    · rw [if_neg (show ¬ decide (B j ≠ -1) = true from fun q9 => (of_decide_eq_true q9 : B j ≠ -1) (hi.away.mpr e1)), if_neg (show ¬ decide (mK j ≠ -1) = true from fun q9 => (of_decide_eq_true q9 : mK j ≠ -1) e1)]
    · rw [if_pos (decide_eq_true (show B j ≠ -1 from fun q9 => e1 (hi.away.mp q9))), if_pos (decide_eq_true e1), (hi.there e1).1]
theorem li_eq_bucket (_hn : n ≤ 40) (h : lawI n ar gl ac ((fl, pr, pg, ky, K, B, M), d) L pool as (((lo, pm, ca, mK), w), nh) F T Ln) (h1 : r1 = fqget n B (fun j => decide (B j ≠ -1)) x) (h2 : r2 = fqget n (fun j => nI (fqk (mK j) lo)) (mqhas mK) x) : r1 = r2 := by
  rw [h1, h2]
  unfold fqget
  cases e : fqat n x with
  | none => rfl
  | some j =>
    dsimp only
    have hi := h.2.1.2.2.2.1 j (fqat_lt e).1
    dsimp only at hi
    unfold mqhas
    by_cases e1 : mK j = -1
    · rw [if_neg (show ¬ decide (B j ≠ -1) = true from fun q9 => (of_decide_eq_true q9 : B j ≠ -1) (hi.away.mpr e1)), if_neg (show ¬ decide (mK j ≠ -1) = true from fun q9 => (of_decide_eq_true q9 : mK j ≠ -1) e1)]
    · rw [if_pos (decide_eq_true (show B j ≠ -1 from fun q9 => e1 (hi.away.mp q9))), if_pos (decide_eq_true e1), (hi.there e1).2.2]
theorem li_eq_many (_hn : n ≤ 40) (h : lawI n ar gl ac ((fl, pr, pg, ky, K, B, M), d) L pool as (((lo, pm, ca, mK), w), nh) F T Ln) (h1 : r1 = fqmany M x) (h2 : r2 = mqmany n (lo, pm, ca, mK) x) : r1 = r2 := by
  rw [h1, h2]
  unfold fqmany mqmany fqat
  by_cases e1 : x < 0
  · rw [if_pos e1, if_pos e1]
  · rw [if_neg e1, if_neg e1]
    by_cases e2 : nI 32 ≤ x
    · rw [if_pos e2, if_neg (fun q9 => absurd (Int32.le_trans e2 q9) (by decide))]
    · obtain ⟨b, hb, rfl⟩ := fq_ix (n := 32) (by decide) e1 e2
      rw [if_neg e2, if_pos (show nI b ≤ 31 from (nI_le (by omega) (by decide) : nI b ≤ nI 31))]
      dsimp only
      rw [fqn_nI (by omega), mqcnt_n]
      have hM : M b = nI (fqcnt (fun i => decide (B i = nI b)) n) := h.2.1.2.2.2.2.2 b hb
      rw [hM]
      show _ = nI 0 + _
      rw [nI_add, Nat.zero_add]
      congr 1
      refine fqcnt_eq fun i hi => ?_
      have hq : QI lo (K i) (B i) (mK i) := h.2.1.2.2.2.1 i hi
      show decide (B i = nI b) = decide (mK i ≠ -1 ∧ nI (fqk (mK i) lo) = nI b)
      refine decide_eq_decide.mpr ⟨fun q9 => ?_, fun q9 => ?_⟩
      · have e3 : mK i ≠ -1 := fun e3 => fq_nm1 (by omega) (q9.symm.trans (hq.away.mpr e3))
        exact ⟨e3, (hq.there e3).2.2.symm.trans q9⟩
      · exact (hq.there q9.1).2.2.trans q9.2
end LE
end
section

/-! THE CLAIM OUT OF ONE WALK OF THE LAW'S BODY. Your part is whole_start (and what it stands on); all else here is the same for every law, but numbers. -/
def R_law : String := "FloorQueueLaw"
def lw_P (b : Addr) (xs : List Int32) (args : Array Value) (s : State) : Prop := args = #[.ref b] ∧ s.IntsAt b xs ∧ xs.length ≤ 2051 ∧ (Jvm.Cond.and given_1 narrow_1).before args s = true
def lw_Q (_ : Array Value) (s : State) (o : Outcome) (t : State) : Prop := o = .returned (some (.int 1)) ∧ Framed s o t [] 600000 7302249
def lw_Z (below : List Frame) (a : Array Value) (s : State) : State → Prop := fun t => ∃ o, t.status = .running ∧ Ended t below o ∧ lw_Q a s o t
/-- the law's own end, with 1 on the stack, nothing written that was there before, its room as the claim has it -/
theorem lw_ret {p : Program} {l : Launch} {e : Env} {s : State} {m : MethodId} {below : List Frame} {meth : Method} {c : Code} {b : Nat} (hx : p.tables.exec = Jvm.exec) (hb : c.code = code) (hr : meth.sig.returnType = ret) (hlocks : meth.locks = false) {pc : Nat} {H : Heap} {ls : Array Slot} (hdg : decode code pc = .ok (.ireturn, 1)) : W p l e room_1 s m #[Value.ref b] below meth c H [] 600000 7302249 (lw_Z below #[Value.ref b] s) (F0 m pc ls [.int 1]) := by
  intro T hT X
  obtain ⟨fs, hret, hrun, hended, hW, hframe⟩ := X.leave (v := some (.int 1)) (hlocks := hlocks) (fun h => by rw [hr] at h; cases h)
  have hmeth' : T.vm.method? m = some meth := X.method'
  refine ⟨T.setFrames fs, ?_, .returned (some (.int 1)), hrun, hended, rfl, ⟨_, rfl⟩, hW, hframe⟩
  jvm_step X.here [X.here.top, hx, hb, hdg, hmeth', hr, ret, narrow_b1]
  (try refine ⟨rfl, ?_⟩); (try refine ⟨rfl, ?_⟩)
  first | (intro acts; rw [hret _ acts rfl rfl rfl]) | rw [hret _ _ rfl rfl rfl]
  exact Steps.refl _
/-- what holds at the law's entry: the machine, the code, the tables' words (any of lw_tbl by 'hts w (by decide +kernel)'), the script of L ints xs at the cell b, what the Statement gives of the start (any of its parts by flat_of_before) -/
def lw_At (p : Program) (s : State) (m : MethodId) (meth : Method) (c : Code) (b L : Nat) (xs : Nat → Int32) : Prop :=
  p.tables.exec = Jvm.exec ∧ c.code = code ∧ meth.sig.returnType = ret ∧ c.maxLocals = 4 ∧ s.vm.findClass R_law = some m.cls ∧ (∀ w ∈ lw_tbl, w.before #[Value.ref b] s = true) ∧ va_X b L xs s s.heap ∧ b < s.heap.size ∧ meth.locks = false ∧ (Jvm.Cond.and given_1 narrow_1).before #[Value.ref b] s = true
theorem cw_RL_21 {R : Room} {s : State} {args : Array Value} {rm : Room} (hts : ∀ w ∈ wsL_law, w.before args s = true) (hR : rm.frames + 1 ≤ R.frames ∧ 8 + (3 + 11) + rm.locals ≤ R.locals) : CallW R s args RL RX1 21 yX1_push cX1_push 3 (some .int) (Cond.code yX1_push cX1_push 3 (some .int) :: wsL_law) rm rm.cells rm.slots 2 := cwV 2 hts (km_app (km_four km_59 km_60 km_61 km_2) (km_in km_62)) rfl rfl rfl (by decide +kernel) hR
theorem cw_RL_25 {R : Room} {s : State} {args : Array Value} {rm : Room} (hts : ∀ w ∈ wsL_law, w.before args s = true) (hR : rm.frames + 1 ≤ R.frames ∧ 8 + (3 + 11) + rm.locals ≤ R.locals) : CallW R s args RL RX2 25 yX2_push cX2_push 3 (some .int) (Cond.code yX2_push cX2_push 3 (some .int) :: wsL_law) rm rm.cells rm.slots 2 := cwV 2 hts (km_app (km_four km_92 km_93 km_94 km_5) (km_in km_95)) rfl rfl rfl (by decide +kernel) hR
theorem cw_RL_26 {R : Room} {s : State} {args : Array Value} {rm : Room} (hts : ∀ w ∈ wsL_law, w.before args s = true) (hR : rm.frames + 1 ≤ R.frames ∧ 8 + (3 + 11) + rm.locals ≤ R.locals) : CallW R s args RL RX1 26 yX1_lower cX1_lower 3 (some .int) (Cond.code yX1_lower cX1_lower 3 (some .int) :: wsL_law) rm rm.cells rm.slots 2 := cwV 2 hts (km_app (km_four km_102 km_103 km_104 km_2) (km_in km_105)) rfl rfl rfl (by decide +kernel) hR
theorem cw_RL_29 {R : Room} {s : State} {args : Array Value} {rm : Room} (hts : ∀ w ∈ wsL_law, w.before args s = true) (hR : rm.frames + 1 ≤ R.frames ∧ 8 + (3 + 11) + rm.locals ≤ R.locals) : CallW R s args RL RX2 29 yX2_lower cX2_lower 3 (some .int) (Cond.code yX2_lower cX2_lower 3 (some .int) :: wsL_law) rm rm.cells rm.slots 2 := cwV 2 hts (km_app (km_four km_106 km_107 km_108 km_5) (km_in km_109)) rfl rfl rfl (by decide +kernel) hR
theorem cw_RL_30 {R : Room} {s : State} {args : Array Value} {rm : Room} (hts : ∀ w ∈ wsL_law, w.before args s = true) (hR : rm.frames + 1 ≤ R.frames ∧ 8 + (3 + 11) + rm.locals ≤ R.locals) : CallW R s args RL RX1 30 yX1_pop cX1_pop 3 (some .int) (Cond.code yX1_pop cX1_pop 3 (some .int) :: wsL_law) rm rm.cells rm.slots 0 := cwV 0 hts (km_app (km_four km_117 km_118 km_119 km_2) (km_in km_120)) rfl rfl rfl (by decide +kernel) hR
theorem cw_RL_34 {R : Room} {s : State} {args : Array Value} {rm : Room} (hts : ∀ w ∈ wsL_law, w.before args s = true) (hR : rm.frames + 1 ≤ R.frames ∧ 8 + (4 + 11) + rm.locals ≤ R.locals) : CallW R s args RL RX2 34 yX2_pop cX2_pop 4 (some .int) (Cond.code yX2_pop cX2_pop 4 (some .int) :: wsL_law) rm rm.cells rm.slots 0 := cwV 0 hts (km_app (km_four km_137 km_138 km_139 km_5) (km_in km_140)) rfl rfl rfl (by decide +kernel) hR
theorem cw_RL_35 {R : Room} {s : State} {args : Array Value} {rm : Room} (hts : ∀ w ∈ wsL_law, w.before args s = true) (hR : rm.frames + 1 ≤ R.frames ∧ 8 + (1 + 11) + rm.locals ≤ R.locals) : CallW R s args RL RX1 35 yX1_floor cX1_floor 1 (some .int) (Cond.code yX1_floor cX1_floor 1 (some .int) :: wsL_law) rm rm.cells rm.slots 0 := cwV 0 hts (km_app (km_four km_141 km_142 km_143 km_2) (km_in km_144)) rfl rfl rfl (by decide +kernel) hR
theorem cw_RL_38 {R : Room} {s : State} {args : Array Value} {rm : Room} (hts : ∀ w ∈ wsL_law, w.before args s = true) (hR : rm.frames + 1 ≤ R.frames ∧ 8 + (1 + 11) + rm.locals ≤ R.locals) : CallW R s args RL RX2 38 yX2_floor cX2_floor 1 (some .int) (Cond.code yX2_floor cX2_floor 1 (some .int) :: wsL_law) rm rm.cells rm.slots 0 := cwV 0 hts (km_app (km_four km_145 km_146 km_147 km_5) (km_in km_148)) rfl rfl rfl (by decide +kernel) hR
theorem cw_RL_39 {R : Room} {s : State} {args : Array Value} {rm : Room} (hts : ∀ w ∈ wsL_law, w.before args s = true) (hR : rm.frames + 1 ≤ R.frames ∧ 8 + (1 + 11) + rm.locals ≤ R.locals) : CallW R s args RL RX1 39 yX1_size cX1_size 1 (some .int) (Cond.code yX1_size cX1_size 1 (some .int) :: wsL_law) rm rm.cells rm.slots 0 := cwV 0 hts (km_app (km_four km_149 km_150 km_151 km_2) (km_in km_152)) rfl rfl rfl (by decide +kernel) hR
theorem cw_RL_42 {R : Room} {s : State} {args : Array Value} {rm : Room} (hts : ∀ w ∈ wsL_law, w.before args s = true) (hR : rm.frames + 1 ≤ R.frames ∧ 8 + (3 + 11) + rm.locals ≤ R.locals) : CallW R s args RL RX2 42 yX2_size cX2_size 3 (some .int) (Cond.code yX2_size cX2_size 3 (some .int) :: wsL_law) rm rm.cells rm.slots 0 := cwV 0 hts (km_app (km_four km_153 km_154 km_155 km_5) (km_in km_156)) rfl rfl rfl (by decide +kernel) hR
theorem cw_RL_43 {R : Room} {s : State} {args : Array Value} {rm : Room} (hts : ∀ w ∈ wsL_law, w.before args s = true) (hR : rm.frames + 1 ≤ R.frames ∧ 8 + (2 + 11) + rm.locals ≤ R.locals) : CallW R s args RL RX1 43 yX1_key cX1_key 2 (some .int) (Cond.code yX1_key cX1_key 2 (some .int) :: wsL_law) rm rm.cells rm.slots 1 := cwV 1 hts (km_app (km_four km_157 km_158 km_159 km_2) (km_in km_160)) rfl rfl rfl (by decide +kernel) hR
theorem cw_RL_47 {R : Room} {s : State} {args : Array Value} {rm : Room} (hts : ∀ w ∈ wsL_law, w.before args s = true) (hR : rm.frames + 1 ≤ R.frames ∧ 8 + (2 + 11) + rm.locals ≤ R.locals) : CallW R s args RL RX2 47 yX2_key cX2_key 2 (some .int) (Cond.code yX2_key cX2_key 2 (some .int) :: wsL_law) rm rm.cells rm.slots 1 := cwV 1 hts (km_app (km_four km_161 km_162 km_163 km_5) (km_in km_164)) rfl rfl rfl (by decide +kernel) hR
theorem cw_RL_48 {R : Room} {s : State} {args : Array Value} {rm : Room} (hts : ∀ w ∈ wsL_law, w.before args s = true) (hR : rm.frames + 1 ≤ R.frames ∧ 8 + (2 + 11) + rm.locals ≤ R.locals) : CallW R s args RL RX1 48 yX1_bucket cX1_bucket 2 (some .int) (Cond.code yX1_bucket cX1_bucket 2 (some .int) :: wsL_law) rm rm.cells rm.slots 1 := cwV 1 hts (km_app (km_four km_165 km_166 km_167 km_2) (km_in km_168)) rfl rfl rfl (by decide +kernel) hR
theorem cw_RL_51 {R : Room} {s : State} {args : Array Value} {rm : Room} (hts : ∀ w ∈ wsL_law, w.before args s = true) (hR : rm.frames + 1 ≤ R.frames ∧ 8 + (2 + 11) + rm.locals ≤ R.locals) : CallW R s args RL RX2 51 yX2_bucket cX2_bucket 2 (some .int) (Cond.code yX2_bucket cX2_bucket 2 (some .int) :: wsL_law) rm rm.cells rm.slots 1 := cwV 1 hts (km_app (km_four km_169 km_170 km_171 km_5) (km_in km_172)) rfl rfl rfl (by decide +kernel) hR
theorem cw_RL_52 {R : Room} {s : State} {args : Array Value} {rm : Room} (hts : ∀ w ∈ wsL_law, w.before args s = true) (hR : rm.frames + 1 ≤ R.frames ∧ 8 + (2 + 11) + rm.locals ≤ R.locals) : CallW R s args RL RX1 52 yX1_many cX1_many 2 (some .int) (Cond.code yX1_many cX1_many 2 (some .int) :: wsL_law) rm rm.cells rm.slots 1 := cwV 1 hts (km_app (km_four km_173 km_174 km_175 km_2) (km_in km_176)) rfl rfl rfl (by decide +kernel) hR
theorem cw_RL_55 {R : Room} {s : State} {args : Array Value} {rm : Room} (hts : ∀ w ∈ wsL_law, w.before args s = true) (hR : rm.frames + 1 ≤ R.frames ∧ 8 + (4 + 11) + rm.locals ≤ R.locals) : CallW R s args RL RX2 55 yX2_many cX2_many 4 (some .int) (Cond.code yX2_many cX2_many 4 (some .int) :: wsL_law) rm rm.cells rm.slots 1 := cwV 1 hts (km_app (km_four km_177 km_178 km_179 km_5) (km_in km_180)) rfl rfl rfl (by decide +kernel) hR
theorem cw_RL_56 {R : Room} {s : State} {args : Array Value} {rm : Room} (hts : ∀ w ∈ wsL_law, w.before args s = true) (hR : rm.frames + 1 ≤ R.frames ∧ 8 + (1 + 11) + rm.locals ≤ R.locals) : CallW R s args RL RX1 56 yX1_placed cX1_placed 1 (some .int) (Cond.code yX1_placed cX1_placed 1 (some .int) :: wsL_law) rm rm.cells rm.slots 0 := cwV 0 hts (km_app (km_four km_181 km_182 km_183 km_2) (km_in km_184)) rfl rfl rfl (by decide +kernel) hR
theorem cw_RL_59 {R : Room} {s : State} {args : Array Value} {rm : Room} (hts : ∀ w ∈ wsL_law, w.before args s = true) (hR : rm.frames + 1 ≤ R.frames ∧ 8 + (1 + 11) + rm.locals ≤ R.locals) : CallW R s args RL RX2 59 yX2_placed cX2_placed 1 (some .int) (Cond.code yX2_placed cX2_placed 1 (some .int) :: wsL_law) rm rm.cells rm.slots 0 := cwV 0 hts (km_app (km_four km_185 km_186 km_187 km_5) (km_in km_188)) rfl rfl rfl (by decide +kernel) hR
theorem cw_RL_60 {R : Room} {s : State} {args : Array Value} {rm : Room} (hts : ∀ w ∈ wsL_law, w.before args s = true) (hR : rm.frames + 1 ≤ R.frames ∧ 8 + (4 + 11) + rm.locals ≤ R.locals) : CallW R s args RL RX1 60 yX1_arc cX1_arc 4 (some .int) (Cond.code yX1_arc cX1_arc 4 (some .int) :: wsL_law) rm rm.cells rm.slots 3 := cwV 3 hts (km_app (km_four km_189 km_190 km_191 km_2) (km_in km_192)) rfl rfl rfl (by decide +kernel) hR
theorem cw_RL_64 {R : Room} {s : State} {args : Array Value} {rm : Room} (hts : ∀ w ∈ wsL_law, w.before args s = true) (hR : rm.frames + 1 ≤ R.frames ∧ 8 + (4 + 11) + rm.locals ≤ R.locals) : CallW R s args RL RX2 64 yX2_arc cX2_arc 4 (some .int) (Cond.code yX2_arc cX2_arc 4 (some .int) :: wsL_law) rm rm.cells rm.slots 3 := cwV 3 hts (km_app (km_four km_206 km_207 km_208 km_5) (km_in km_209)) rfl rfl rfl (by decide +kernel) hR
theorem cw_RL_65 {R : Room} {s : State} {args : Array Value} {rm : Room} (hts : ∀ w ∈ wsL_law, w.before args s = true) (hR : rm.frames + 1 ≤ R.frames ∧ 8 + (3 + 11) + rm.locals ≤ R.locals) : CallW R s args RL RX1 65 yX1_run cX1_run 3 (some .int) (Cond.code yX1_run cX1_run 3 (some .int) :: wsL_law) rm rm.cells rm.slots 1 := cwV 1 hts (km_app (km_four km_212 km_213 km_214 km_2) (km_in km_215)) rfl rfl rfl (by decide +kernel) hR
theorem cw_RL_68 {R : Room} {s : State} {args : Array Value} {rm : Room} (hts : ∀ w ∈ wsL_law, w.before args s = true) (hR : rm.frames + 1 ≤ R.frames ∧ 8 + (5 + 11) + rm.locals ≤ R.locals) : CallW R s args RL RX2 68 yX2_run cX2_run 5 (some .int) (Cond.code yX2_run cX2_run 5 (some .int) :: wsL_law) rm rm.cells rm.slots 1 := cwV 1 hts (km_app (km_four km_240 km_241 km_242 km_5) (km_in km_243)) rfl rfl rfl (by decide +kernel) hR
theorem cw_RL_69 {R : Room} {s : State} {args : Array Value} {rm : Room} (hts : ∀ w ∈ wsL_law, w.before args s = true) (hR : rm.frames + 1 ≤ R.frames ∧ 8 + (2 + 11) + rm.locals ≤ R.locals) : CallW R s args RL RX1 69 yX1_distance cX1_distance 2 (some .int) (Cond.code yX1_distance cX1_distance 2 (some .int) :: wsL_law) rm rm.cells rm.slots 1 := cwV 1 hts (km_app (km_four km_258 km_259 km_260 km_2) (km_in km_261)) rfl rfl rfl (by decide +kernel) hR
theorem cw_RL_72 {R : Room} {s : State} {args : Array Value} {rm : Room} (hts : ∀ w ∈ wsL_law, w.before args s = true) (hR : rm.frames + 1 ≤ R.frames ∧ 8 + (2 + 11) + rm.locals ≤ R.locals) : CallW R s args RL RX2 72 yX2_distance cX2_distance 2 (some .int) (Cond.code yX2_distance cX2_distance 2 (some .int) :: wsL_law) rm rm.cells rm.slots 1 := cwV 1 hts (km_app (km_four km_262 km_263 km_264 km_5) (km_in km_265)) rfl rfl rfl (by decide +kernel) hR
theorem cw_RL_73 {R : Room} {s : State} {args : Array Value} {rm : Room} (hts : ∀ w ∈ wsL_law, w.before args s = true) (hR : rm.frames + 1 ≤ R.frames ∧ 8 + (2 + 11) + rm.locals ≤ R.locals) : CallW R s args RL RX1 73 yX1_before cX1_before 2 (some .int) (Cond.code yX1_before cX1_before 2 (some .int) :: wsL_law) rm rm.cells rm.slots 1 := cwV 1 hts (km_app (km_four km_266 km_267 km_268 km_2) (km_in km_269)) rfl rfl rfl (by decide +kernel) hR
theorem cw_RL_76 {R : Room} {s : State} {args : Array Value} {rm : Room} (hts : ∀ w ∈ wsL_law, w.before args s = true) (hR : rm.frames + 1 ≤ R.frames ∧ 8 + (2 + 11) + rm.locals ≤ R.locals) : CallW R s args RL RX2 76 yX2_before cX2_before 2 (some .int) (Cond.code yX2_before cX2_before 2 (some .int) :: wsL_law) rm rm.cells rm.slots 1 := cwV 1 hts (km_app (km_four km_270 km_271 km_272 km_5) (km_in km_273)) rfl rfl rfl (by decide +kernel) hR
theorem cw_RL_77 {R : Room} {s : State} {args : Array Value} {rm : Room} (hts : ∀ w ∈ wsL_law, w.before args s = true) (hR : rm.frames + 1 ≤ R.frames ∧ 8 + (2 + 11) + rm.locals ≤ R.locals) : CallW R s args RL RX1 77 yX1_sound cX1_sound 2 (some .boolean) (Cond.code yX1_sound cX1_sound 2 (some .boolean) :: wsL_law) rm rm.cells rm.slots 0 := cwV 0 hts (km_app (km_four km_274 km_275 km_276 km_2) (km_in km_277)) rfl rfl rfl (by decide +kernel) hR
theorem cw_RL_81 {R : Room} {s : State} {args : Array Value} {rm : Room} (hts : ∀ w ∈ wsL_law, w.before args s = true) (hR : rm.frames + 1 ≤ R.frames ∧ 8 + (1 + 11) + rm.locals ≤ R.locals) : CallW R s args RL RX2 81 yX2_sound cX2_sound 1 (some .boolean) (Cond.code yX2_sound cX2_sound 1 (some .boolean) :: wsL_law) rm rm.cells rm.slots 0 := cwV 0 hts (km_app (km_four km_283 km_284 km_285 km_5) (km_in km_286)) rfl rfl rfl (by decide +kernel) hR
theorem cw_RL_82 {R : Room} {s : State} {args : Array Value} {rm : Room} (hts : ∀ w ∈ wsL_law, w.before args s = true) (hR : rm.frames + 1 ≤ R.frames ∧ 8 + (2 + 11) + rm.locals ≤ R.locals) : CallW R s args RL RX1 82 yX1_count cX1_count 2 (some .int) (Cond.code yX1_count cX1_count 2 (some .int) :: wsL_law) rm rm.cells rm.slots 1 := cwV 1 hts (km_app (km_four km_287 km_288 km_289 km_2) (km_in km_290)) rfl rfl rfl (by decide +kernel) hR
theorem cw_RL_85 {R : Room} {s : State} {args : Array Value} {rm : Room} (hts : ∀ w ∈ wsL_law, w.before args s = true) (hR : rm.frames + 1 ≤ R.frames ∧ 8 + (2 + 11) + rm.locals ≤ R.locals) : CallW R s args RL RX2 85 yX2_count cX2_count 2 (some .int) (Cond.code yX2_count cX2_count 2 (some .int) :: wsL_law) rm rm.cells rm.slots 1 := cwV 1 hts (km_app (km_four km_291 km_292 km_293 km_5) (km_in km_294)) rfl rfl rfl (by decide +kernel) hR
theorem cw_RL_15 {R : Room} {s : State} {args : Array Value} {rm : Room} (hts : ∀ w ∈ wsL_law, w.before args s = true) (hR : rm.frames + 1 ≤ R.frames ∧ 8 + (4 + 11) + rm.locals ≤ R.locals) : CallB R s args RL 15 yX1_init cX1_init 4 none (Cond.code yX1_init cX1_init 4 none :: wsL_law) rm rm.cells rm.slots 3 ∧ yX1_init.name = "<init>" ∧ (Cond.instanceMethod yX1_init).before args s = true := cwI 3 hts (km_in km_12) rfl rfl rfl (hts _ km_2) (hts _ km_10) (hts _ km_11) rfl (by decide +kernel) hR
theorem cw_RL_20 {R : Room} {s : State} {args : Array Value} {rm : Room} (hts : ∀ w ∈ wsL_law, w.before args s = true) (hR : rm.frames + 1 ≤ R.frames ∧ 8 + (4 + 11) + rm.locals ≤ R.locals) : CallB R s args RL 20 yX2_init cX2_init 4 none (Cond.code yX2_init cX2_init 4 none :: wsL_law) rm rm.cells rm.slots 3 ∧ yX2_init.name = "<init>" ∧ (Cond.instanceMethod yX2_init).before args s = true := cwI 3 hts (km_in km_40) rfl rfl rfl (hts _ km_5) (hts _ km_38) (hts _ km_39) rfl (by decide +kernel) hR
set_option maxHeartbeats 4000000 in
set_option maxRecDepth 100000 in
theorem law_loop {p : Program} {e : Env} {s : State} {m : MethodId} {below : List Frame} {meth : Method} {c : Code} (l : Launch) {b N : Nat} {xs : Nat → Int32} (hN : N ≤ 2051) (C0 : lw_At p s m meth c b N xs) (dC : Nat → ClassId) (dI : Nat → Nat → Nat) (cI cA cZ : ClassId) (hK : va_K (dC, dI) classes (fq_ty cI cA cZ) s) (hNw : fq_N s) (z y : Nat → Nat) (n ar : Nat) (gl : Int32) (hn : n ≤ 40) (har : ar ≤ 300) : ∀ (d i : Nat) (ac : Nat) (fl pr pg ky : Int32) (K B M Ds Bf : Nat → Int32) (L : Nat → Option Nat) (pool : va_W) (as : Nat → List (Int32 × Int32)) (lo pm ca hw : Int32) (mK F T Ln Wy Fo Tk Ne : Nat → Int32) (H : Heap) (locs : List Loc) (cells slots : Nat) (ls : Array Slot), i ≤ 3000 → N - i < d → lawI n ar gl ac ((fl, pr, pg, ky, K, B, M), Ds, Bf) L pool as (((lo, pm, ca, mK), Wy, Fo, Tk), Ne, hw) F T Ln → cells ≤ 100 + i → slots ≤ 2000 + 3 * i → va_P (dC, dI) classes (wX z cI cA n (nI ar) gl fl pr pg ky (nI ac) K B M Ds Bf L ++ (mC y cI cZ n ar gl lo pm ca ac hw mK F T Ln Wy Fo Tk Ne ++ pool)) H → va_D (fun q : Nat => s.heap.size ≤ q) (wX z cI cA n (nI ar) gl fl pr pg ky (nI ac) K B M Ds Bf L ++ (mC y cI cZ n ar gl lo pm ca ac hw mK F T Ln Wy Fo Tk Ne ++ pool)) → va_S (fun q : Nat => s.heap.size ≤ q) s.heap H locs → lv_has ls 4 [(0, .ref b), (1, .ref (z 0)), (2, .ref (y 0)), (3, .int (nI i))] → W p l e room_1 s m #[Value.ref b] below meth c H locs cells slots (lw_Z below #[Value.ref b] s) (F0 m 48 ls []) := by
  obtain ⟨hx, hb, hr, hml, hown, hts0, hX, hbl, hlocks, hgv⟩ := id C0
  have hts := fun w (h : w ∈ wsL_law) => hts0 w (wsL_law_in w h)
  have hF : CallFix p m c code 4 s #[Value.ref b] wsL_law RL := ⟨hx, hb, hml, hown, hts⟩
  obtain ⟨A, hAe⟩ : ∃ A : Nat → Prop, A = (fun q : Nat => s.heap.size ≤ q) := ⟨_, rfl⟩
  have hA : ∀ q : Nat, s.heap.size ≤ q → A q := fun q h => by rw [hAe]; exact h
  have hbA : ¬ A b := by rw [hAe]; exact Nat.not_le.mpr hbl
  have hAs : ∀ q, A q → s.heap.size ≤ q := fun q h => by rw [hAe] at h; exact h
  rw [← hAe]
  have hN31 : N < 2 ^ 31 := by omega
  have hn31 : n < 2 ^ 31 := by omega
  intro d
  induction d with
  | zero => intro i ac fl pr pg ky K B M Ds Bf L pool as lo pm ca hw mK F T Ln Wy Fo Tk Ne H locs cells slots ls _ h9; omega
  | succ d ih =>
    intro i ac fl pr pg ky K B M Ds Bf L pool as lo pm ca hw mK F T Ln Wy Fo Tk Ne H locs cells slots ls hi3 hd hI hcl hsl hP hD hS hl
    have hch := li_ch hI
    have hs := li_s hI
    have hms := li_ms hI
    have hnet := li_net hI
    have hac := li_ac hI
    refine lv_iload_n hx hb dL_law_48 rfl (lv_at hl 3 rfl) ?_
    refine lv_aload_n hx hb dL_law_49 rfl (lv_at hl 0 rfl) ?_
    refine va_slen hx hb hX hbl hbA hS dL_law_50 ?_
    refine lv_iconst (v := 4) hx hb dL_law_51 (by decide) ?_
    refine lv_isub hx hb dL_law_52 ?_
    refine lv_icmp_gt (tgt := 477) hx hb dL_law_53 (by decide) (fun c_53 => ?_) (fun c_53 => ?_)
    · refine lv_iconst (v := 1) hx hb dL_law_477 (by decide) ?_
      refine va_forget (fun q hq => hAs _ (hS.2.2 q hq)) ?_
      refine W.widen (k := 600000) (n := 7302249) (by omega) (by omega) ?_
      exact lw_ret hx hb hr hlocks dL_law_478
    · have hlt : i + 4 ≤ N := Classical.not_not.mp fun h9 => c_53 ((fq_head (by omega) hN).mpr h9)
      refine lv_aload_n hx hb dL_law_56 rfl (lv_at hl 0 rfl) ?_
      refine lv_iload_n hx hb dL_law_57 rfl (lv_at hl 3 rfl) ?_
      refine fx_sld hx hb hX hbl hbA hS i rfl (by omega) hN31 dL_law_58 ?_
      refine lv_bipush (v := 15) hx hb dL_law_59 (by decide) ?_
      refine lv_iand hx hb dL_law_61 ?_
      obtain ⟨sw, hsw, esw⟩ := pk_andE (xs i) (m := 15) 4 (by decide)
      refine fx_is esw ?_
      have hsw : sw < 16 := hsw
      have KT : ∀ (ac : Nat) (fl pr pg ky : Int32) (K B M Ds Bf : Nat → Int32) (L : Nat → Option Nat) (pool : va_W) (as : Nat → List (Int32 × Int32)) (lo pm ca hw : Int32) (mK F T Ln Wy Fo Tk Ne : Nat → Int32) (H : Heap) (locs : List Loc) (cells2 slots2 : Nat) (ls : Array Slot), lawI n ar gl ac ((fl, pr, pg, ky, K, B, M), Ds, Bf) L pool as (((lo, pm, ca, mK), Wy, Fo, Tk), Ne, hw) F T Ln → cells2 ≤ cells + 1 → slots2 ≤ slots + 3 → va_P (dC, dI) classes (wX z cI cA n (nI ar) gl fl pr pg ky (nI ac) K B M Ds Bf L ++ (mC y cI cZ n ar gl lo pm ca ac hw mK F T Ln Wy Fo Tk Ne ++ pool)) H → va_D A (wX z cI cA n (nI ar) gl fl pr pg ky (nI ac) K B M Ds Bf L ++ (mC y cI cZ n ar gl lo pm ca ac hw mK F T Ln Wy Fo Tk Ne ++ pool)) → va_S A s.heap H locs → lv_has ls 4 [(0, .ref b), (1, .ref (z 0)), (2, .ref (y 0)), (3, .int (nI i))] → W p l e room_1 s m #[Value.ref b] below meth c H locs cells2 slots2 (lw_Z below #[Value.ref b] s) (F0 m 471 ls []) := by
        intro ac fl pr pg ky K B M Ds Bf L pool as lo pm ca hw mK F T Ln Wy Fo Tk Ne H locs cells2 slots2 ls hI h1 h2 hP hD hS hl
        refine lv_iinc (v := nI (i + 4)) (lv' := [(3, .int (nI (i + 4))), (0, .ref b), (1, .ref (z 0)), (2, .ref (y 0))]) hx hb dL_law_471 hl (k := 3) rfl (nI_add i 4) (by decide) rfl (fun ls hl => ?_)
        refine lv_goto (tgt := 48) hx hb dL_law_474 (by decide) ?_
        exact ih (i + 4) ac fl pr pg ky K B M Ds Bf L pool as lo pm ca hw mK F T Ln Wy Fo Tk Ne H locs cells2 slots2 ls (by omega) (by omega) hI (by omega) (by omega) hP hD hS (lv_sub hl [1, 2, 3, 0] rfl)
      rcases (show sw = 0 ∨ sw = 1 ∨ sw = 2 ∨ sw = 3 ∨ sw = 4 ∨ sw = 5 ∨ sw = 6 ∨ sw = 7 ∨ sw = 8 ∨ sw = 9 ∨ sw = 10 ∨ sw = 11 ∨ sw = 12 ∨ sw = 13 ∨ sw = 14 ∨ sw = 15 by omega) with rfl | rfl | rfl | rfl | rfl | rfl | rfl | rfl | rfl | rfl | rfl | rfl | rfl | rfl | rfl | rfl
      · -- 0
        refine lv_tableIn (tgt := 136) (off := 74) hx hb dL_law_62 (by decide) (by decide) (by decide) (by decide) ?_
        refine lv_aload_n hx hb dL_law_136 rfl (lv_at hl 1 rfl) ?_
        refine lv_aload_n hx hb dL_law_137 rfl (lv_at hl 0 rfl) ?_
        refine lv_iload_n hx hb dL_law_138 rfl (lv_at hl 3 rfl) ?_
        refine lv_iconst (v := 1) hx hb dL_law_139 (by decide) ?_
        refine lv_iadd hx hb dL_law_140 ?_
        refine fx_sld hx hb hX hbl hbA hS (i + 1) (nI_add i 1) (by omega) hN31 dL_law_141 ?_
        refine lv_aload_n hx hb dL_law_142 rfl (lv_at hl 0 rfl) ?_
        refine lv_iload_n hx hb dL_law_143 rfl (lv_at hl 3 rfl) ?_
        refine lv_iconst (v := 2) hx hb dL_law_144 (by decide) ?_
        refine lv_iadd hx hb dL_law_145 ?_
        refine fx_sld hx hb hX hbl hbA hS (i + 2) (nI_add i 2) (by omega) hN31 dL_law_146 ?_
        refine fx_Vi (rest := []) (sp_push l dC dI A cI cA cZ (mC y cI cZ n ar gl lo pm ca ac hw mK F T Ln Wy Fo Tk Ne ++ pool) z n hn (nI ar) gl fl pr pg ky (nI ac) K B M Ds Bf L (xs (i + 1)) (xs (i + 2)) hs) hF (cw_RL_21 hts ⟨Nat.le_of_ble_eq_true rfl, Nat.le_of_ble_eq_true rfl⟩) hA hS hP hK hD hNw 0 0 rfl rfl rfl hl.1 rfl (Nat.le_of_ble_eq_true rfl) dL_law_147 ⟨by show cells + 0 ≤ 600000; omega, by show slots + 0 ≤ 7302249; omega⟩ (fun r1 u1 H locs h1 hP hD hS => ?_)
        obtain ⟨fl2, pr2, pg2, ky2, K2, B2, M2⟩ := u1
        have hP : va_P (dC, dI) classes (wX z cI cA n (nI ar) gl fl2 pr2 pg2 ky2 (nI ac) K2 B2 M2 Ds Bf L ++ (mC y cI cZ n ar gl lo pm ca ac hw mK F T Ln Wy Fo Tk Ne ++ pool)) H := hP
        have hD : va_D A (wX z cI cA n (nI ar) gl fl2 pr2 pg2 ky2 (nI ac) K2 B2 M2 Ds Bf L ++ (mC y cI cZ n ar gl lo pm ca ac hw mK F T Ln Wy Fo Tk Ne ++ pool)) := hD
        refine lv_pop hx hb dL_law_150 rfl ?_
        refine lv_aload_n hx hb dL_law_151 rfl (lv_at hl 2 rfl) ?_
        refine lv_aload_n hx hb dL_law_152 rfl (lv_at hl 0 rfl) ?_
        refine lv_iload_n hx hb dL_law_153 rfl (lv_at hl 3 rfl) ?_
        refine lv_iconst (v := 1) hx hb dL_law_154 (by decide) ?_
        refine lv_iadd hx hb dL_law_155 ?_
        refine fx_sld hx hb hX hbl hbA hS (i + 1) (nI_add i 1) (by omega) hN31 dL_law_156 ?_
        refine lv_aload_n hx hb dL_law_157 rfl (lv_at hl 0 rfl) ?_
        refine lv_iload_n hx hb dL_law_158 rfl (lv_at hl 3 rfl) ?_
        refine lv_iconst (v := 2) hx hb dL_law_159 (by decide) ?_
        refine lv_iadd hx hb dL_law_160 ?_
        refine fx_sld hx hb hX hbl hbA hS (i + 2) (nI_add i 2) (by omega) hN31 dL_law_161 ?_
        refine fx_Vi (rest := []) (sq_push l dC dI A cI cA cZ pool (xc0 z n (nI ar) gl fl2 pr2 pg2 ky2 (nI ac)) (xcI z 1 cI n K2) (xcI z 2 cI n B2) (xcI z 3 cI 32 M2) (xcQ z 4 cA n L) (xcI z 5 cI n Ds) (xcI z 6 cI n Bf) y n hn ar gl lo pm ca ac hw mK F T Ln Wy Fo Tk Ne (xs (i + 1)) (xs (i + 2))) hF (cw_RL_25 hts ⟨Nat.le_of_ble_eq_true rfl, Nat.le_of_ble_eq_true rfl⟩) hA hS hP hK hD hNw 7 2 rfl rfl rfl hl.1 rfl (Nat.le_of_ble_eq_true rfl) dL_law_162 ⟨by show cells + 0 ≤ 600000; omega, by show slots + 0 ≤ 7302249; omega⟩ (fun r2 u2 H locs h2 hP hD hS => ?_)
        obtain ⟨lo2, pm2, ca2, mK2⟩ := u2
        have hP : va_P (dC, dI) classes (wX z cI cA n (nI ar) gl fl2 pr2 pg2 ky2 (nI ac) K2 B2 M2 Ds Bf L ++ (mC y cI cZ n ar gl lo2 pm2 ca2 ac hw mK2 F T Ln Wy Fo Tk Ne ++ pool)) H := hP
        have hD : va_D A (wX z cI cA n (nI ar) gl fl2 pr2 pg2 ky2 (nI ac) K2 B2 M2 Ds Bf L ++ (mC y cI cZ n ar gl lo2 pm2 ca2 ac hw mK2 F T Ln Wy Fo Tk Ne ++ pool)) := hD
        refine lv_pop hx hb dL_law_165 rfl ?_
        refine lv_goto (tgt := 471) hx hb dL_law_166 (by decide) ?_
        exact KT ac fl2 pr2 pg2 ky2 K2 B2 M2 Ds Bf L pool as lo2 pm2 ca2 hw mK2 F T Ln Wy Fo Tk Ne H locs cells slots ls (li_push hn hI h1 h2) (by omega) (by omega) hP hD hS hl
      · -- 1
        refine lv_tableIn (tgt := 169) (off := 107) hx hb dL_law_62 (by decide) (by decide) (by decide) (by decide) ?_
        refine lv_aload_n hx hb dL_law_169 rfl (lv_at hl 1 rfl) ?_
        refine lv_aload_n hx hb dL_law_170 rfl (lv_at hl 0 rfl) ?_
        refine lv_iload_n hx hb dL_law_171 rfl (lv_at hl 3 rfl) ?_
        refine lv_iconst (v := 1) hx hb dL_law_172 (by decide) ?_
        refine lv_iadd hx hb dL_law_173 ?_
        refine fx_sld hx hb hX hbl hbA hS (i + 1) (nI_add i 1) (by omega) hN31 dL_law_174 ?_
        refine lv_aload_n hx hb dL_law_175 rfl (lv_at hl 0 rfl) ?_
        refine lv_iload_n hx hb dL_law_176 rfl (lv_at hl 3 rfl) ?_
        refine lv_iconst (v := 2) hx hb dL_law_177 (by decide) ?_
        refine lv_iadd hx hb dL_law_178 ?_
        refine fx_sld hx hb hX hbl hbA hS (i + 2) (nI_add i 2) (by omega) hN31 dL_law_179 ?_
        refine fx_Vi (rest := []) (sp_lower l dC dI A cI cA cZ (mC y cI cZ n ar gl lo pm ca ac hw mK F T Ln Wy Fo Tk Ne ++ pool) z n hn (nI ar) gl fl pr pg ky (nI ac) K B M Ds Bf L (xs (i + 1)) (xs (i + 2)) hs) hF (cw_RL_26 hts ⟨Nat.le_of_ble_eq_true rfl, Nat.le_of_ble_eq_true rfl⟩) hA hS hP hK hD hNw 0 0 rfl rfl rfl hl.1 rfl (Nat.le_of_ble_eq_true rfl) dL_law_180 ⟨by show cells + 0 ≤ 600000; omega, by show slots + 0 ≤ 7302249; omega⟩ (fun r1 u1 H locs h1 hP hD hS => ?_)
        obtain ⟨fl2, pr2, pg2, ky2, K2, B2, M2⟩ := u1
        have hP : va_P (dC, dI) classes (wX z cI cA n (nI ar) gl fl2 pr2 pg2 ky2 (nI ac) K2 B2 M2 Ds Bf L ++ (mC y cI cZ n ar gl lo pm ca ac hw mK F T Ln Wy Fo Tk Ne ++ pool)) H := hP
        have hD : va_D A (wX z cI cA n (nI ar) gl fl2 pr2 pg2 ky2 (nI ac) K2 B2 M2 Ds Bf L ++ (mC y cI cZ n ar gl lo pm ca ac hw mK F T Ln Wy Fo Tk Ne ++ pool)) := hD
        refine lv_pop hx hb dL_law_183 rfl ?_
        refine lv_aload_n hx hb dL_law_184 rfl (lv_at hl 2 rfl) ?_
        refine lv_aload_n hx hb dL_law_185 rfl (lv_at hl 0 rfl) ?_
        refine lv_iload_n hx hb dL_law_186 rfl (lv_at hl 3 rfl) ?_
        refine lv_iconst (v := 1) hx hb dL_law_187 (by decide) ?_
        refine lv_iadd hx hb dL_law_188 ?_
        refine fx_sld hx hb hX hbl hbA hS (i + 1) (nI_add i 1) (by omega) hN31 dL_law_189 ?_
        refine lv_aload_n hx hb dL_law_190 rfl (lv_at hl 0 rfl) ?_
        refine lv_iload_n hx hb dL_law_191 rfl (lv_at hl 3 rfl) ?_
        refine lv_iconst (v := 2) hx hb dL_law_192 (by decide) ?_
        refine lv_iadd hx hb dL_law_193 ?_
        refine fx_sld hx hb hX hbl hbA hS (i + 2) (nI_add i 2) (by omega) hN31 dL_law_194 ?_
        refine fx_Vi (rest := []) (sq_lower l dC dI A cI cA cZ pool (xc0 z n (nI ar) gl fl2 pr2 pg2 ky2 (nI ac)) (xcI z 1 cI n K2) (xcI z 2 cI n B2) (xcI z 3 cI 32 M2) (xcQ z 4 cA n L) (xcI z 5 cI n Ds) (xcI z 6 cI n Bf) y n hn ar gl lo pm ca ac hw mK F T Ln Wy Fo Tk Ne (xs (i + 1)) (xs (i + 2)) hms) hF (cw_RL_29 hts ⟨Nat.le_of_ble_eq_true rfl, Nat.le_of_ble_eq_true rfl⟩) hA hS hP hK hD hNw 7 2 rfl rfl rfl hl.1 rfl (Nat.le_of_ble_eq_true rfl) dL_law_195 ⟨by show cells + 0 ≤ 600000; omega, by show slots + 0 ≤ 7302249; omega⟩ (fun r2 u2 H locs h2 hP hD hS => ?_)
        obtain ⟨lo2, pm2, ca2, mK2⟩ := u2
        have hP : va_P (dC, dI) classes (wX z cI cA n (nI ar) gl fl2 pr2 pg2 ky2 (nI ac) K2 B2 M2 Ds Bf L ++ (mC y cI cZ n ar gl lo2 pm2 ca2 ac hw mK2 F T Ln Wy Fo Tk Ne ++ pool)) H := hP
        have hD : va_D A (wX z cI cA n (nI ar) gl fl2 pr2 pg2 ky2 (nI ac) K2 B2 M2 Ds Bf L ++ (mC y cI cZ n ar gl lo2 pm2 ca2 ac hw mK2 F T Ln Wy Fo Tk Ne ++ pool)) := hD
        refine lv_pop hx hb dL_law_198 rfl ?_
        refine lv_goto (tgt := 471) hx hb dL_law_199 (by decide) ?_
        exact KT ac fl2 pr2 pg2 ky2 K2 B2 M2 Ds Bf L pool as lo2 pm2 ca2 hw mK2 F T Ln Wy Fo Tk Ne H locs cells slots ls (li_lower hn hI h1 h2) (by omega) (by omega) hP hD hS hl
      · -- 2
        refine lv_tableIn (tgt := 202) (off := 140) hx hb dL_law_62 (by decide) (by decide) (by decide) (by decide) ?_
        refine lv_aload_n hx hb dL_law_202 rfl (lv_at hl 1 rfl) ?_
        refine fx_Vi (rest := []) (sp_pop l dC dI A cI cA cZ (mC y cI cZ n ar gl lo pm ca ac hw mK F T Ln Wy Fo Tk Ne ++ pool) z n hn (nI ar) gl fl pr pg ky (nI ac) K B M Ds Bf L hs) hF (cw_RL_30 hts ⟨Nat.le_of_ble_eq_true rfl, Nat.le_of_ble_eq_true rfl⟩) hA hS hP hK hD hNw 0 0 rfl rfl rfl hl.1 rfl (Nat.le_of_ble_eq_true rfl) dL_law_203 ⟨by show cells + 0 ≤ 600000; omega, by show slots + 0 ≤ 7302249; omega⟩ (fun r1 u1 H locs h1 hP hD hS => ?_)
        obtain ⟨fl2, pr2, pg2, ky2, K2, B2, M2⟩ := u1
        have hP : va_P (dC, dI) classes (wX z cI cA n (nI ar) gl fl2 pr2 pg2 ky2 (nI ac) K2 B2 M2 Ds Bf L ++ (mC y cI cZ n ar gl lo pm ca ac hw mK F T Ln Wy Fo Tk Ne ++ pool)) H := hP
        have hD : va_D A (wX z cI cA n (nI ar) gl fl2 pr2 pg2 ky2 (nI ac) K2 B2 M2 Ds Bf L ++ (mC y cI cZ n ar gl lo pm ca ac hw mK F T Ln Wy Fo Tk Ne ++ pool)) := hD
        refine lv_pop hx hb dL_law_206 rfl ?_
        refine lv_aload_n hx hb dL_law_207 rfl (lv_at hl 2 rfl) ?_
        refine fx_Vi (rest := []) (sq_pop l dC dI A cI cA cZ pool (xc0 z n (nI ar) gl fl2 pr2 pg2 ky2 (nI ac)) (xcI z 1 cI n K2) (xcI z 2 cI n B2) (xcI z 3 cI 32 M2) (xcQ z 4 cA n L) (xcI z 5 cI n Ds) (xcI z 6 cI n Bf) y n hn ar gl lo pm ca ac hw mK F T Ln Wy Fo Tk Ne hms) hF (cw_RL_34 hts ⟨Nat.le_of_ble_eq_true rfl, Nat.le_of_ble_eq_true rfl⟩) hA hS hP hK hD hNw 7 2 rfl rfl rfl hl.1 rfl (Nat.le_of_ble_eq_true rfl) dL_law_208 ⟨by show cells + 0 ≤ 600000; omega, by show slots + 0 ≤ 7302249; omega⟩ (fun r2 u2 H locs h2 hP hD hS => ?_)
        obtain ⟨lo2, pm2, ca2, mK2⟩ := u2
        have hP : va_P (dC, dI) classes (wX z cI cA n (nI ar) gl fl2 pr2 pg2 ky2 (nI ac) K2 B2 M2 Ds Bf L ++ (mC y cI cZ n ar gl lo2 pm2 ca2 ac hw mK2 F T Ln Wy Fo Tk Ne ++ pool)) H := hP
        have hD : va_D A (wX z cI cA n (nI ar) gl fl2 pr2 pg2 ky2 (nI ac) K2 B2 M2 Ds Bf L ++ (mC y cI cZ n ar gl lo2 pm2 ca2 ac hw mK2 F T Ln Wy Fo Tk Ne ++ pool)) := hD
        refine lv_pop hx hb dL_law_211 rfl ?_
        refine lv_goto (tgt := 471) hx hb dL_law_212 (by decide) ?_
        exact KT ac fl2 pr2 pg2 ky2 K2 B2 M2 Ds Bf L pool as lo2 pm2 ca2 hw mK2 F T Ln Wy Fo Tk Ne H locs cells slots ls (li_pop hn hI h1 h2) (by omega) (by omega) hP hD hS hl
      · -- 3
        refine lv_tableIn (tgt := 215) (off := 153) hx hb dL_law_62 (by decide) (by decide) (by decide) (by decide) ?_
        refine lv_aload_n hx hb dL_law_215 rfl (lv_at hl 1 rfl) ?_
        refine fx_Vs (rest := []) (sp_floor l dC dI A cI cA cZ (mC y cI cZ n ar gl lo pm ca ac hw mK F T Ln Wy Fo Tk Ne ++ pool) z n hn (nI ar) gl fl pr pg ky (nI ac) K B M Ds Bf L) hF (cw_RL_35 hts ⟨Nat.le_of_ble_eq_true rfl, Nat.le_of_ble_eq_true rfl⟩) hA hS hP hK hD hNw 0 0 rfl rfl rfl hl.1 rfl (Nat.le_of_ble_eq_true rfl) dL_law_216 ⟨by show cells ≤ 600000; omega, by show slots ≤ 7302249; omega⟩ (fun r1 h1 => ?_)
        refine lv_pop hx hb dL_law_219 rfl ?_
        refine lv_aload_n hx hb dL_law_220 rfl (lv_at hl 2 rfl) ?_
        refine fx_Vs (rest := []) (sq_floor l dC dI A cI cA cZ pool (xc0 z n (nI ar) gl fl pr pg ky (nI ac)) (xcI z 1 cI n K) (xcI z 2 cI n B) (xcI z 3 cI 32 M) (xcQ z 4 cA n L) (xcI z 5 cI n Ds) (xcI z 6 cI n Bf) y n hn ar gl lo pm ca ac hw mK F T Ln Wy Fo Tk Ne) hF (cw_RL_38 hts ⟨Nat.le_of_ble_eq_true rfl, Nat.le_of_ble_eq_true rfl⟩) hA hS hP hK hD hNw 7 2 rfl rfl rfl hl.1 rfl (Nat.le_of_ble_eq_true rfl) dL_law_221 ⟨by show cells ≤ 600000; omega, by show slots ≤ 7302249; omega⟩ (fun r2 h2 => ?_)
        refine lv_pop hx hb dL_law_224 rfl ?_
        refine lv_goto (tgt := 471) hx hb dL_law_225 (by decide) ?_
        exact KT ac fl pr pg ky K B M Ds Bf L pool as lo pm ca hw mK F T Ln Wy Fo Tk Ne H locs cells slots ls (hI) (by omega) (by omega) hP hD hS hl
      · -- 4
        refine lv_tableIn (tgt := 228) (off := 166) hx hb dL_law_62 (by decide) (by decide) (by decide) (by decide) ?_
        refine lv_aload_n hx hb dL_law_228 rfl (lv_at hl 1 rfl) ?_
        refine fx_Vs (rest := []) (sp_size l dC dI A cI cA cZ (mC y cI cZ n ar gl lo pm ca ac hw mK F T Ln Wy Fo Tk Ne ++ pool) z n hn (nI ar) gl fl pr pg ky (nI ac) K B M Ds Bf L) hF (cw_RL_39 hts ⟨Nat.le_of_ble_eq_true rfl, Nat.le_of_ble_eq_true rfl⟩) hA hS hP hK hD hNw 0 0 rfl rfl rfl hl.1 rfl (Nat.le_of_ble_eq_true rfl) dL_law_229 ⟨by show cells ≤ 600000; omega, by show slots ≤ 7302249; omega⟩ (fun r1 h1 => ?_)
        refine lv_pop hx hb dL_law_232 rfl ?_
        refine lv_aload_n hx hb dL_law_233 rfl (lv_at hl 2 rfl) ?_
        refine fx_Vs (rest := []) (sq_size l dC dI A cI cA cZ pool (xc0 z n (nI ar) gl fl pr pg ky (nI ac)) (xcI z 1 cI n K) (xcI z 2 cI n B) (xcI z 3 cI 32 M) (xcQ z 4 cA n L) (xcI z 5 cI n Ds) (xcI z 6 cI n Bf) y n hn ar gl lo pm ca ac hw mK F T Ln Wy Fo Tk Ne) hF (cw_RL_42 hts ⟨Nat.le_of_ble_eq_true rfl, Nat.le_of_ble_eq_true rfl⟩) hA hS hP hK hD hNw 7 2 rfl rfl rfl hl.1 rfl (Nat.le_of_ble_eq_true rfl) dL_law_234 ⟨by show cells ≤ 600000; omega, by show slots ≤ 7302249; omega⟩ (fun r2 h2 => ?_)
        refine lv_pop hx hb dL_law_237 rfl ?_
        refine lv_goto (tgt := 471) hx hb dL_law_238 (by decide) ?_
        exact KT ac fl pr pg ky K B M Ds Bf L pool as lo pm ca hw mK F T Ln Wy Fo Tk Ne H locs cells slots ls (hI) (by omega) (by omega) hP hD hS hl
      · -- 5
        refine lv_tableIn (tgt := 241) (off := 179) hx hb dL_law_62 (by decide) (by decide) (by decide) (by decide) ?_
        refine lv_aload_n hx hb dL_law_241 rfl (lv_at hl 1 rfl) ?_
        refine lv_aload_n hx hb dL_law_242 rfl (lv_at hl 0 rfl) ?_
        refine lv_iload_n hx hb dL_law_243 rfl (lv_at hl 3 rfl) ?_
        refine lv_iconst (v := 1) hx hb dL_law_244 (by decide) ?_
        refine lv_iadd hx hb dL_law_245 ?_
        refine fx_sld hx hb hX hbl hbA hS (i + 1) (nI_add i 1) (by omega) hN31 dL_law_246 ?_
        refine fx_Vs (rest := []) (sp_key l dC dI A cI cA cZ (mC y cI cZ n ar gl lo pm ca ac hw mK F T Ln Wy Fo Tk Ne ++ pool) z n hn (nI ar) gl fl pr pg ky (nI ac) K B M Ds Bf L (xs (i + 1))) hF (cw_RL_43 hts ⟨Nat.le_of_ble_eq_true rfl, Nat.le_of_ble_eq_true rfl⟩) hA hS hP hK hD hNw 0 0 rfl rfl rfl hl.1 rfl (Nat.le_of_ble_eq_true rfl) dL_law_247 ⟨by show cells ≤ 600000; omega, by show slots ≤ 7302249; omega⟩ (fun r1 h1 => ?_)
        refine lv_pop hx hb dL_law_250 rfl ?_
        refine lv_aload_n hx hb dL_law_251 rfl (lv_at hl 2 rfl) ?_
        refine lv_aload_n hx hb dL_law_252 rfl (lv_at hl 0 rfl) ?_
        refine lv_iload_n hx hb dL_law_253 rfl (lv_at hl 3 rfl) ?_
        refine lv_iconst (v := 1) hx hb dL_law_254 (by decide) ?_
        refine lv_iadd hx hb dL_law_255 ?_
        refine fx_sld hx hb hX hbl hbA hS (i + 1) (nI_add i 1) (by omega) hN31 dL_law_256 ?_
        refine fx_Vs (rest := []) (sq_key l dC dI A cI cA cZ pool (xc0 z n (nI ar) gl fl pr pg ky (nI ac)) (xcI z 1 cI n K) (xcI z 2 cI n B) (xcI z 3 cI 32 M) (xcQ z 4 cA n L) (xcI z 5 cI n Ds) (xcI z 6 cI n Bf) y n hn ar gl lo pm ca ac hw mK F T Ln Wy Fo Tk Ne (xs (i + 1)) hms) hF (cw_RL_47 hts ⟨Nat.le_of_ble_eq_true rfl, Nat.le_of_ble_eq_true rfl⟩) hA hS hP hK hD hNw 7 2 rfl rfl rfl hl.1 rfl (Nat.le_of_ble_eq_true rfl) dL_law_257 ⟨by show cells ≤ 600000; omega, by show slots ≤ 7302249; omega⟩ (fun r2 h2 => ?_)
        refine lv_pop hx hb dL_law_260 rfl ?_
        refine lv_goto (tgt := 471) hx hb dL_law_261 (by decide) ?_
        exact KT ac fl pr pg ky K B M Ds Bf L pool as lo pm ca hw mK F T Ln Wy Fo Tk Ne H locs cells slots ls (hI) (by omega) (by omega) hP hD hS hl
      · -- 6
        refine lv_tableIn (tgt := 264) (off := 202) hx hb dL_law_62 (by decide) (by decide) (by decide) (by decide) ?_
        refine lv_aload_n hx hb dL_law_264 rfl (lv_at hl 1 rfl) ?_
        refine lv_aload_n hx hb dL_law_265 rfl (lv_at hl 0 rfl) ?_
        refine lv_iload_n hx hb dL_law_266 rfl (lv_at hl 3 rfl) ?_
        refine lv_iconst (v := 1) hx hb dL_law_267 (by decide) ?_
        refine lv_iadd hx hb dL_law_268 ?_
        refine fx_sld hx hb hX hbl hbA hS (i + 1) (nI_add i 1) (by omega) hN31 dL_law_269 ?_
        refine fx_Vs (rest := []) (sp_bucket l dC dI A cI cA cZ (mC y cI cZ n ar gl lo pm ca ac hw mK F T Ln Wy Fo Tk Ne ++ pool) z n hn (nI ar) gl fl pr pg ky (nI ac) K B M Ds Bf L (xs (i + 1))) hF (cw_RL_48 hts ⟨Nat.le_of_ble_eq_true rfl, Nat.le_of_ble_eq_true rfl⟩) hA hS hP hK hD hNw 0 0 rfl rfl rfl hl.1 rfl (Nat.le_of_ble_eq_true rfl) dL_law_270 ⟨by show cells ≤ 600000; omega, by show slots ≤ 7302249; omega⟩ (fun r1 h1 => ?_)
        refine lv_pop hx hb dL_law_273 rfl ?_
        refine lv_aload_n hx hb dL_law_274 rfl (lv_at hl 2 rfl) ?_
        refine lv_aload_n hx hb dL_law_275 rfl (lv_at hl 0 rfl) ?_
        refine lv_iload_n hx hb dL_law_276 rfl (lv_at hl 3 rfl) ?_
        refine lv_iconst (v := 1) hx hb dL_law_277 (by decide) ?_
        refine lv_iadd hx hb dL_law_278 ?_
        refine fx_sld hx hb hX hbl hbA hS (i + 1) (nI_add i 1) (by omega) hN31 dL_law_279 ?_
        refine fx_Vs (rest := []) (sq_bucket l dC dI A cI cA cZ pool (xc0 z n (nI ar) gl fl pr pg ky (nI ac)) (xcI z 1 cI n K) (xcI z 2 cI n B) (xcI z 3 cI 32 M) (xcQ z 4 cA n L) (xcI z 5 cI n Ds) (xcI z 6 cI n Bf) y n hn ar gl lo pm ca ac hw mK F T Ln Wy Fo Tk Ne (xs (i + 1)) hms) hF (cw_RL_51 hts ⟨Nat.le_of_ble_eq_true rfl, Nat.le_of_ble_eq_true rfl⟩) hA hS hP hK hD hNw 7 2 rfl rfl rfl hl.1 rfl (Nat.le_of_ble_eq_true rfl) dL_law_280 ⟨by show cells ≤ 600000; omega, by show slots ≤ 7302249; omega⟩ (fun r2 h2 => ?_)
        refine lv_pop hx hb dL_law_283 rfl ?_
        refine lv_goto (tgt := 471) hx hb dL_law_284 (by decide) ?_
        exact KT ac fl pr pg ky K B M Ds Bf L pool as lo pm ca hw mK F T Ln Wy Fo Tk Ne H locs cells slots ls (hI) (by omega) (by omega) hP hD hS hl
      · -- 7
        refine lv_tableIn (tgt := 287) (off := 225) hx hb dL_law_62 (by decide) (by decide) (by decide) (by decide) ?_
        refine lv_aload_n hx hb dL_law_287 rfl (lv_at hl 1 rfl) ?_
        refine lv_aload_n hx hb dL_law_288 rfl (lv_at hl 0 rfl) ?_
        refine lv_iload_n hx hb dL_law_289 rfl (lv_at hl 3 rfl) ?_
        refine lv_iconst (v := 1) hx hb dL_law_290 (by decide) ?_
        refine lv_iadd hx hb dL_law_291 ?_
        refine fx_sld hx hb hX hbl hbA hS (i + 1) (nI_add i 1) (by omega) hN31 dL_law_292 ?_
        refine fx_Vs (rest := []) (sp_many l dC dI A cI cA cZ (mC y cI cZ n ar gl lo pm ca ac hw mK F T Ln Wy Fo Tk Ne ++ pool) z n hn (nI ar) gl fl pr pg ky (nI ac) K B M Ds Bf L (xs (i + 1))) hF (cw_RL_52 hts ⟨Nat.le_of_ble_eq_true rfl, Nat.le_of_ble_eq_true rfl⟩) hA hS hP hK hD hNw 0 0 rfl rfl rfl hl.1 rfl (Nat.le_of_ble_eq_true rfl) dL_law_293 ⟨by show cells ≤ 600000; omega, by show slots ≤ 7302249; omega⟩ (fun r1 h1 => ?_)
        refine lv_aload_n hx hb dL_law_296 rfl (lv_at hl 2 rfl) ?_
        refine lv_aload_n hx hb dL_law_297 rfl (lv_at hl 0 rfl) ?_
        refine lv_iload_n hx hb dL_law_298 rfl (lv_at hl 3 rfl) ?_
        refine lv_iconst (v := 1) hx hb dL_law_299 (by decide) ?_
        refine lv_iadd hx hb dL_law_300 ?_
        refine fx_sld hx hb hX hbl hbA hS (i + 1) (nI_add i 1) (by omega) hN31 dL_law_301 ?_
        refine fx_Vs (rest := [.int r1]) (sq_many l dC dI A cI cA cZ pool (xc0 z n (nI ar) gl fl pr pg ky (nI ac)) (xcI z 1 cI n K) (xcI z 2 cI n B) (xcI z 3 cI 32 M) (xcQ z 4 cA n L) (xcI z 5 cI n Ds) (xcI z 6 cI n Bf) y n hn ar gl lo pm ca ac hw mK F T Ln Wy Fo Tk Ne (xs (i + 1)) hms) hF (cw_RL_55 hts ⟨Nat.le_of_ble_eq_true rfl, Nat.le_of_ble_eq_true rfl⟩) hA hS hP hK hD hNw 7 2 rfl rfl rfl hl.1 rfl (Nat.le_of_ble_eq_true rfl) dL_law_302 ⟨by show cells ≤ 600000; omega, by show slots ≤ 7302249; omega⟩ (fun r2 h2 => ?_)
        refine lv_icmp_eq (tgt := 471) hx hb dL_law_305 (by decide) (fun _ => ?_) (fun h9 => absurd (li_eq_many hn hI h1 h2) h9)
        exact KT ac fl pr pg ky K B M Ds Bf L pool as lo pm ca hw mK F T Ln Wy Fo Tk Ne H locs cells slots ls (hI) (by omega) (by omega) hP hD hS hl
      · -- 8
        refine lv_tableIn (tgt := 310) (off := 248) hx hb dL_law_62 (by decide) (by decide) (by decide) (by decide) ?_
        refine lv_aload_n hx hb dL_law_310 rfl (lv_at hl 1 rfl) ?_
        refine fx_Vs (rest := []) (sp_placed l dC dI A cI cA cZ (mC y cI cZ n ar gl lo pm ca ac hw mK F T Ln Wy Fo Tk Ne ++ pool) z n hn (nI ar) gl fl pr pg ky (nI ac) K B M Ds Bf L) hF (cw_RL_56 hts ⟨Nat.le_of_ble_eq_true rfl, Nat.le_of_ble_eq_true rfl⟩) hA hS hP hK hD hNw 0 0 rfl rfl rfl hl.1 rfl (Nat.le_of_ble_eq_true rfl) dL_law_311 ⟨by show cells ≤ 600000; omega, by show slots ≤ 7302249; omega⟩ (fun r1 h1 => ?_)
        refine lv_pop hx hb dL_law_314 rfl ?_
        refine lv_aload_n hx hb dL_law_315 rfl (lv_at hl 2 rfl) ?_
        refine fx_Vs (rest := []) (sq_placed l dC dI A cI cA cZ pool (xc0 z n (nI ar) gl fl pr pg ky (nI ac)) (xcI z 1 cI n K) (xcI z 2 cI n B) (xcI z 3 cI 32 M) (xcQ z 4 cA n L) (xcI z 5 cI n Ds) (xcI z 6 cI n Bf) y n hn ar gl lo pm ca ac hw mK F T Ln Wy Fo Tk Ne) hF (cw_RL_59 hts ⟨Nat.le_of_ble_eq_true rfl, Nat.le_of_ble_eq_true rfl⟩) hA hS hP hK hD hNw 7 2 rfl rfl rfl hl.1 rfl (Nat.le_of_ble_eq_true rfl) dL_law_316 ⟨by show cells ≤ 600000; omega, by show slots ≤ 7302249; omega⟩ (fun r2 h2 => ?_)
        refine lv_pop hx hb dL_law_319 rfl ?_
        refine lv_goto (tgt := 471) hx hb dL_law_320 (by decide) ?_
        exact KT ac fl pr pg ky K B M Ds Bf L pool as lo pm ca hw mK F T Ln Wy Fo Tk Ne H locs cells slots ls (hI) (by omega) (by omega) hP hD hS hl
      · -- 9
        refine lv_tableIn (tgt := 323) (off := 261) hx hb dL_law_62 (by decide) (by decide) (by decide) (by decide) ?_
        refine lv_aload_n hx hb dL_law_323 rfl (lv_at hl 1 rfl) ?_
        refine lv_aload_n hx hb dL_law_324 rfl (lv_at hl 0 rfl) ?_
        refine lv_iload_n hx hb dL_law_325 rfl (lv_at hl 3 rfl) ?_
        refine lv_iconst (v := 1) hx hb dL_law_326 (by decide) ?_
        refine lv_iadd hx hb dL_law_327 ?_
        refine fx_sld hx hb hX hbl hbA hS (i + 1) (nI_add i 1) (by omega) hN31 dL_law_328 ?_
        refine lv_aload_n hx hb dL_law_329 rfl (lv_at hl 0 rfl) ?_
        refine lv_iload_n hx hb dL_law_330 rfl (lv_at hl 3 rfl) ?_
        refine lv_iconst (v := 2) hx hb dL_law_331 (by decide) ?_
        refine lv_iadd hx hb dL_law_332 ?_
        refine fx_sld hx hb hX hbl hbA hS (i + 2) (nI_add i 2) (by omega) hN31 dL_law_333 ?_
        refine lv_aload_n hx hb dL_law_334 rfl (lv_at hl 0 rfl) ?_
        refine lv_iload_n hx hb dL_law_335 rfl (lv_at hl 3 rfl) ?_
        refine lv_iconst (v := 3) hx hb dL_law_336 (by decide) ?_
        refine lv_iadd hx hb dL_law_337 ?_
        refine fx_sld hx hb hX hbl hbA hS (i + 3) (nI_add i 3) (by omega) hN31 dL_law_338 ?_
        refine fx_Vi (rest := []) (sp_arc l dC dI A cI cA cZ (mC y cI cZ n ar gl lo pm ca ac hw mK F T Ln Wy Fo Tk Ne ++ pool) z n hn (nI ar) gl fl pr pg ky (nI ac) K B M Ds Bf L (xs (i + 1)) (xs (i + 2)) (xs (i + 3))) hF (cw_RL_60 hts ⟨Nat.le_of_ble_eq_true rfl, Nat.le_of_ble_eq_true rfl⟩) hA hS hP hK hD hNw 0 0 rfl rfl rfl hl.1 rfl (Nat.le_of_ble_eq_true rfl) dL_law_339 ⟨by show cells + 1 ≤ 600000; omega, by show slots + 3 ≤ 7302249; omega⟩ (fun r1 u1 H locs h1 hP hD hS => ?_)
        cases u1 with
        | none =>
          have h0 : fqarcR n (nI ar) gl (nI ac) (xs (i + 1)) (xs (i + 2)) (xs (i + 3)) ≠ 0 := fun h9 => by obtain ⟨q, h8⟩ := h1.2.mp (h1.1.trans h9); cases h8
          have hP : va_P (dC, dI) classes (wX z cI cA n (nI ar) gl fl pr pg ky (nI ac) K B M Ds Bf L ++ (mC y cI cZ n ar gl lo pm ca ac hw mK F T Ln Wy Fo Tk Ne ++ pool)) H := hP
          have hD : va_D A (wX z cI cA n (nI ar) gl fl pr pg ky (nI ac) K B M Ds Bf L ++ (mC y cI cZ n ar gl lo pm ca ac hw mK F T Ln Wy Fo Tk Ne ++ pool)) := hD
          refine lv_pop hx hb dL_law_342 rfl ?_
          refine lv_aload_n hx hb dL_law_343 rfl (lv_at hl 2 rfl) ?_
          refine lv_aload_n hx hb dL_law_344 rfl (lv_at hl 0 rfl) ?_
          refine lv_iload_n hx hb dL_law_345 rfl (lv_at hl 3 rfl) ?_
          refine lv_iconst (v := 1) hx hb dL_law_346 (by decide) ?_
          refine lv_iadd hx hb dL_law_347 ?_
          refine fx_sld hx hb hX hbl hbA hS (i + 1) (nI_add i 1) (by omega) hN31 dL_law_348 ?_
          refine lv_aload_n hx hb dL_law_349 rfl (lv_at hl 0 rfl) ?_
          refine lv_iload_n hx hb dL_law_350 rfl (lv_at hl 3 rfl) ?_
          refine lv_iconst (v := 2) hx hb dL_law_351 (by decide) ?_
          refine lv_iadd hx hb dL_law_352 ?_
          refine fx_sld hx hb hX hbl hbA hS (i + 2) (nI_add i 2) (by omega) hN31 dL_law_353 ?_
          refine lv_aload_n hx hb dL_law_354 rfl (lv_at hl 0 rfl) ?_
          refine lv_iload_n hx hb dL_law_355 rfl (lv_at hl 3 rfl) ?_
          refine lv_iconst (v := 3) hx hb dL_law_356 (by decide) ?_
          refine lv_iadd hx hb dL_law_357 ?_
          refine fx_sld hx hb hX hbl hbA hS (i + 3) (nI_add i 3) (by omega) hN31 dL_law_358 ?_
          refine fx_Vi (rest := []) (sq_arc l dC dI A cI cA cZ pool (xc0 z n (nI ar) gl fl pr pg ky (nI ac)) (xcI z 1 cI n K) (xcI z 2 cI n B) (xcI z 3 cI 32 M) (xcQ z 4 cA n L) (xcI z 5 cI n Ds) (xcI z 6 cI n Bf) y n hn ar gl lo pm ca ac hw mK F T Ln Wy Fo Tk Ne (xs (i + 1)) (xs (i + 2)) (xs (i + 3)) har hac) hF (cw_RL_64 hts ⟨Nat.le_of_ble_eq_true rfl, Nat.le_of_ble_eq_true rfl⟩) hA hS hP hK hD hNw 7 2 rfl rfl rfl hl.1 rfl (Nat.le_of_ble_eq_true rfl) dL_law_359 ⟨by show (cells + 1) + 0 ≤ 600000; omega, by show (slots + 3) + 0 ≤ 7302249; omega⟩ (fun r2 u2 H locs h2 hP hD hS => ?_)
          rw [mqarc_n (s := (ac, hw, F, T, Ln)) h0] at h2
          obtain ⟨rfl, rfl⟩ := Prod.mk.inj h2
          have hP : va_P (dC, dI) classes (wX z cI cA n (nI ar) gl fl pr pg ky (nI ac) K B M Ds Bf L ++ (mC y cI cZ n ar gl lo pm ca ac hw mK F T Ln Wy Fo Tk Ne ++ pool)) H := hP
          have hD : va_D A (wX z cI cA n (nI ar) gl fl pr pg ky (nI ac) K B M Ds Bf L ++ (mC y cI cZ n ar gl lo pm ca ac hw mK F T Ln Wy Fo Tk Ne ++ pool)) := hD
          refine lv_pop hx hb dL_law_362 rfl ?_
          refine lv_goto (tgt := 471) hx hb dL_law_363 (by decide) ?_
          exact KT ac fl pr pg ky K B M Ds Bf L pool as lo pm ca hw mK F T Ln Wy Fo Tk Ne H locs (cells + 1) (slots + 3) ls (hI) (by omega) (by omega) hP hD hS hl
        | some q =>
          have h0 : fqarcR n (nI ar) gl (nI ac) (xs (i + 1)) (xs (i + 2)) (xs (i + 3)) = 0 := h1.1.symm.trans (h1.2.mpr ⟨q, rfl⟩)
          rw [nI_1 ac] at hP hD
          have hP : va_P (dC, dI) classes (wX z cI cA n (nI ar) gl fl pr pg ky (nI (ac + 1)) K B M (fqfill n (-1) Ds) (fqfill n (-1) Bf) (va_up L (fqn (xs (i + 1))) (some q)) ++ (mC y cI cZ n ar gl lo pm ca ac hw mK F T Ln Wy Fo Tk Ne ++ (pool ++ [(q, .inr (1, [.int (xs (i + 2)), .int (xs (i + 3)), va_rf (L (fqn (xs (i + 1))))]))]))) H := hP
          have hD : va_D A (wX z cI cA n (nI ar) gl fl pr pg ky (nI (ac + 1)) K B M (fqfill n (-1) Ds) (fqfill n (-1) Bf) (va_up L (fqn (xs (i + 1))) (some q)) ++ (mC y cI cZ n ar gl lo pm ca ac hw mK F T Ln Wy Fo Tk Ne ++ (pool ++ [(q, .inr (1, [.int (xs (i + 2)), .int (xs (i + 3)), va_rf (L (fqn (xs (i + 1))))]))]))) := hD
          refine lv_pop hx hb dL_law_342 rfl ?_
          refine lv_aload_n hx hb dL_law_343 rfl (lv_at hl 2 rfl) ?_
          refine lv_aload_n hx hb dL_law_344 rfl (lv_at hl 0 rfl) ?_
          refine lv_iload_n hx hb dL_law_345 rfl (lv_at hl 3 rfl) ?_
          refine lv_iconst (v := 1) hx hb dL_law_346 (by decide) ?_
          refine lv_iadd hx hb dL_law_347 ?_
          refine fx_sld hx hb hX hbl hbA hS (i + 1) (nI_add i 1) (by omega) hN31 dL_law_348 ?_
          refine lv_aload_n hx hb dL_law_349 rfl (lv_at hl 0 rfl) ?_
          refine lv_iload_n hx hb dL_law_350 rfl (lv_at hl 3 rfl) ?_
          refine lv_iconst (v := 2) hx hb dL_law_351 (by decide) ?_
          refine lv_iadd hx hb dL_law_352 ?_
          refine fx_sld hx hb hX hbl hbA hS (i + 2) (nI_add i 2) (by omega) hN31 dL_law_353 ?_
          refine lv_aload_n hx hb dL_law_354 rfl (lv_at hl 0 rfl) ?_
          refine lv_iload_n hx hb dL_law_355 rfl (lv_at hl 3 rfl) ?_
          refine lv_iconst (v := 3) hx hb dL_law_356 (by decide) ?_
          refine lv_iadd hx hb dL_law_357 ?_
          refine fx_sld hx hb hX hbl hbA hS (i + 3) (nI_add i 3) (by omega) hN31 dL_law_358 ?_
          refine fx_Vi (rest := []) (sq_arc l dC dI A cI cA cZ (pool ++ [(q, .inr (1, [.int (xs (i + 2)), .int (xs (i + 3)), va_rf (L (fqn (xs (i + 1))))]))]) (xc0 z n (nI ar) gl fl pr pg ky (nI (ac + 1))) (xcI z 1 cI n K) (xcI z 2 cI n B) (xcI z 3 cI 32 M) (xcQ z 4 cA n (va_up L (fqn (xs (i + 1))) (some q))) (xcI z 5 cI n (fqfill n (-1) Ds)) (xcI z 6 cI n (fqfill n (-1) Bf)) y n hn ar gl lo pm ca ac hw mK F T Ln Wy Fo Tk Ne (xs (i + 1)) (xs (i + 2)) (xs (i + 3)) har hac) hF (cw_RL_64 hts ⟨Nat.le_of_ble_eq_true rfl, Nat.le_of_ble_eq_true rfl⟩) hA hS hP hK hD hNw 7 2 rfl rfl rfl hl.1 rfl (Nat.le_of_ble_eq_true rfl) dL_law_359 ⟨by show (cells + 1) + 0 ≤ 600000; omega, by show (slots + 3) + 0 ≤ 7302249; omega⟩ (fun r2 u2 H locs h2 hP hD hS => ?_)
          rw [mqarc_0 (s := (ac, hw, F, T, Ln)) h0] at h2
          obtain ⟨rfl, rfl⟩ := Prod.mk.inj h2
          have hP : va_P (dC, dI) classes (wX z cI cA n (nI ar) gl fl pr pg ky (nI (ac + 1)) K B M (fqfill n (-1) Ds) (fqfill n (-1) Bf) (va_up L (fqn (xs (i + 1))) (some q)) ++ (mC y cI cZ n ar gl lo pm ca (ac + 1) 0 mK (upd F ac (xs (i + 1))) (upd T ac (xs (i + 2))) (upd Ln ac (xs (i + 3))) Wy Fo Tk Ne ++ (pool ++ [(q, .inr (1, [.int (xs (i + 2)), .int (xs (i + 3)), va_rf (L (fqn (xs (i + 1))))]))]))) H := hP
          have hD : va_D A (wX z cI cA n (nI ar) gl fl pr pg ky (nI (ac + 1)) K B M (fqfill n (-1) Ds) (fqfill n (-1) Bf) (va_up L (fqn (xs (i + 1))) (some q)) ++ (mC y cI cZ n ar gl lo pm ca (ac + 1) 0 mK (upd F ac (xs (i + 1))) (upd T ac (xs (i + 2))) (upd Ln ac (xs (i + 3))) Wy Fo Tk Ne ++ (pool ++ [(q, .inr (1, [.int (xs (i + 2)), .int (xs (i + 3)), va_rf (L (fqn (xs (i + 1))))]))]))) := hD
          refine lv_pop hx hb dL_law_362 rfl ?_
          refine lv_goto (tgt := 471) hx hb dL_law_363 (by decide) ?_
          exact KT (ac + 1) fl pr pg ky K B M (fqfill n (-1) Ds) (fqfill n (-1) Bf) (va_up L (fqn (xs (i + 1))) (some q)) (pool ++ [(q, .inr (1, [.int (xs (i + 2)), .int (xs (i + 3)), va_rf (L (fqn (xs (i + 1))))]))]) (fqas as (fqn (xs (i + 1))) (xs (i + 2)) (xs (i + 3))) lo pm ca 0 mK (upd F ac (xs (i + 1))) (upd T ac (xs (i + 2))) (upd Ln ac (xs (i + 3))) Wy Fo Tk Ne H locs (cells + 1) (slots + 3) ls (li_arc hn har hI h0) (by omega) (by omega) hP hD hS hl
      · -- 10
        refine lv_tableIn (tgt := 366) (off := 304) hx hb dL_law_62 (by decide) (by decide) (by decide) (by decide) ?_
        refine lv_aload_n hx hb dL_law_366 rfl (lv_at hl 1 rfl) ?_
        refine lv_aload_n hx hb dL_law_367 rfl (lv_at hl 0 rfl) ?_
        refine lv_iload_n hx hb dL_law_368 rfl (lv_at hl 3 rfl) ?_
        refine lv_iconst (v := 1) hx hb dL_law_369 (by decide) ?_
        refine lv_iadd hx hb dL_law_370 ?_
        refine fx_sld hx hb hX hbl hbA hS (i + 1) (nI_add i 1) (by omega) hN31 dL_law_371 ?_
        refine fx_Vi (rest := []) (sp_run l dC dI A cI cA cZ (mC y cI cZ n ar gl lo pm ca ac hw mK F T Ln Wy Fo Tk Ne ++ pool) z n hn (nI ar) gl fl pr pg ky (nI ac) K B M Ds Bf L as (xs (i + 1)) (fun i9 h9 => ⟨fqch_pre _ _ (hch i9 h9).1, (hch i9 h9).2⟩) hs) hF (cw_RL_65 hts ⟨Nat.le_of_ble_eq_true rfl, Nat.le_of_ble_eq_true rfl⟩) hA hS hP hK hD hNw 0 0 rfl rfl rfl hl.1 rfl (Nat.le_of_ble_eq_true rfl) dL_law_372 ⟨by show cells + 0 ≤ 600000; omega, by show slots + 0 ≤ 7302249; omega⟩ (fun r1 u1 H locs h1 hP hD hS => ?_)
        obtain ⟨⟨fl2, pr2, pg2, ky2, K2, B2, M2⟩, Ds2, Bf2⟩ := u1
        have hP : va_P (dC, dI) classes (wX z cI cA n (nI ar) gl fl2 pr2 pg2 ky2 (nI ac) K2 B2 M2 Ds2 Bf2 L ++ (mC y cI cZ n ar gl lo pm ca ac hw mK F T Ln Wy Fo Tk Ne ++ pool)) H := hP
        have hD : va_D A (wX z cI cA n (nI ar) gl fl2 pr2 pg2 ky2 (nI ac) K2 B2 M2 Ds2 Bf2 L ++ (mC y cI cZ n ar gl lo pm ca ac hw mK F T Ln Wy Fo Tk Ne ++ pool)) := hD
        refine lv_pop hx hb dL_law_375 rfl ?_
        refine lv_aload_n hx hb dL_law_376 rfl (lv_at hl 2 rfl) ?_
        refine lv_aload_n hx hb dL_law_377 rfl (lv_at hl 0 rfl) ?_
        refine lv_iload_n hx hb dL_law_378 rfl (lv_at hl 3 rfl) ?_
        refine lv_iconst (v := 1) hx hb dL_law_379 (by decide) ?_
        refine lv_iadd hx hb dL_law_380 ?_
        refine fx_sld hx hb hX hbl hbA hS (i + 1) (nI_add i 1) (by omega) hN31 dL_law_381 ?_
        refine fx_Vi (rest := []) (sq_run l dC dI A cI cA cZ pool (xc0 z n (nI ar) gl fl2 pr2 pg2 ky2 (nI ac)) (xcI z 1 cI n K2) (xcI z 2 cI n B2) (xcI z 3 cI 32 M2) (xcQ z 4 cA n L) (xcI z 5 cI n Ds2) (xcI z 6 cI n Bf2) y n hn ar gl lo pm ca ac hw mK F T Ln Wy Fo Tk Ne (xs (i + 1)) (by omega) hnet) hF (cw_RL_68 hts ⟨Nat.le_of_ble_eq_true rfl, Nat.le_of_ble_eq_true rfl⟩) hA hS hP hK hD hNw 7 2 rfl rfl rfl hl.1 rfl (Nat.le_of_ble_eq_true rfl) dL_law_382 ⟨by show cells + 0 ≤ 600000; omega, by show slots + 0 ≤ 7302249; omega⟩ (fun r2 u2 H locs h2 hP hD hS => ?_)
        obtain ⟨⟨⟨lo2, pm2, ca2, mK2⟩, Wy2, Fo2, Tk2⟩, Ne2, hw2⟩ := u2
        have hP : va_P (dC, dI) classes (wX z cI cA n (nI ar) gl fl2 pr2 pg2 ky2 (nI ac) K2 B2 M2 Ds2 Bf2 L ++ (mC y cI cZ n ar gl lo2 pm2 ca2 ac hw2 mK2 F T Ln Wy2 Fo2 Tk2 Ne2 ++ pool)) H := hP
        have hD : va_D A (wX z cI cA n (nI ar) gl fl2 pr2 pg2 ky2 (nI ac) K2 B2 M2 Ds2 Bf2 L ++ (mC y cI cZ n ar gl lo2 pm2 ca2 ac hw2 mK2 F T Ln Wy2 Fo2 Tk2 Ne2 ++ pool)) := hD
        refine lv_pop hx hb dL_law_385 rfl ?_
        refine lv_goto (tgt := 471) hx hb dL_law_386 (by decide) ?_
        exact KT ac fl2 pr2 pg2 ky2 K2 B2 M2 Ds2 Bf2 L pool as lo2 pm2 ca2 hw2 mK2 F T Ln Wy2 Fo2 Tk2 Ne2 H locs cells slots ls (li_run hn hI h1 h2) (by omega) (by omega) hP hD hS hl
      · -- 11
        refine lv_tableIn (tgt := 389) (off := 327) hx hb dL_law_62 (by decide) (by decide) (by decide) (by decide) ?_
        refine lv_aload_n hx hb dL_law_389 rfl (lv_at hl 1 rfl) ?_
        refine lv_aload_n hx hb dL_law_390 rfl (lv_at hl 0 rfl) ?_
        refine lv_iload_n hx hb dL_law_391 rfl (lv_at hl 3 rfl) ?_
        refine lv_iconst (v := 1) hx hb dL_law_392 (by decide) ?_
        refine lv_iadd hx hb dL_law_393 ?_
        refine fx_sld hx hb hX hbl hbA hS (i + 1) (nI_add i 1) (by omega) hN31 dL_law_394 ?_
        refine fx_Vs (rest := []) (sp_distance l dC dI A cI cA cZ (mC y cI cZ n ar gl lo pm ca ac hw mK F T Ln Wy Fo Tk Ne ++ pool) z n hn (nI ar) gl fl pr pg ky (nI ac) K B M Ds Bf L (xs (i + 1))) hF (cw_RL_69 hts ⟨Nat.le_of_ble_eq_true rfl, Nat.le_of_ble_eq_true rfl⟩) hA hS hP hK hD hNw 0 0 rfl rfl rfl hl.1 rfl (Nat.le_of_ble_eq_true rfl) dL_law_395 ⟨by show cells ≤ 600000; omega, by show slots ≤ 7302249; omega⟩ (fun r1 h1 => ?_)
        refine lv_pop hx hb dL_law_398 rfl ?_
        refine lv_aload_n hx hb dL_law_399 rfl (lv_at hl 2 rfl) ?_
        refine lv_aload_n hx hb dL_law_400 rfl (lv_at hl 0 rfl) ?_
        refine lv_iload_n hx hb dL_law_401 rfl (lv_at hl 3 rfl) ?_
        refine lv_iconst (v := 1) hx hb dL_law_402 (by decide) ?_
        refine lv_iadd hx hb dL_law_403 ?_
        refine fx_sld hx hb hX hbl hbA hS (i + 1) (nI_add i 1) (by omega) hN31 dL_law_404 ?_
        refine fx_Vs (rest := []) (sq_distance l dC dI A cI cA cZ pool (xc0 z n (nI ar) gl fl pr pg ky (nI ac)) (xcI z 1 cI n K) (xcI z 2 cI n B) (xcI z 3 cI 32 M) (xcQ z 4 cA n L) (xcI z 5 cI n Ds) (xcI z 6 cI n Bf) y n hn ar gl lo pm ca ac hw mK F T Ln Wy Fo Tk Ne (xs (i + 1))) hF (cw_RL_72 hts ⟨Nat.le_of_ble_eq_true rfl, Nat.le_of_ble_eq_true rfl⟩) hA hS hP hK hD hNw 7 2 rfl rfl rfl hl.1 rfl (Nat.le_of_ble_eq_true rfl) dL_law_405 ⟨by show cells ≤ 600000; omega, by show slots ≤ 7302249; omega⟩ (fun r2 h2 => ?_)
        refine lv_pop hx hb dL_law_408 rfl ?_
        refine lv_goto (tgt := 471) hx hb dL_law_409 (by decide) ?_
        exact KT ac fl pr pg ky K B M Ds Bf L pool as lo pm ca hw mK F T Ln Wy Fo Tk Ne H locs cells slots ls (hI) (by omega) (by omega) hP hD hS hl
      · -- 12
        refine lv_tableIn (tgt := 412) (off := 350) hx hb dL_law_62 (by decide) (by decide) (by decide) (by decide) ?_
        refine lv_aload_n hx hb dL_law_412 rfl (lv_at hl 1 rfl) ?_
        refine lv_aload_n hx hb dL_law_413 rfl (lv_at hl 0 rfl) ?_
        refine lv_iload_n hx hb dL_law_414 rfl (lv_at hl 3 rfl) ?_
        refine lv_iconst (v := 1) hx hb dL_law_415 (by decide) ?_
        refine lv_iadd hx hb dL_law_416 ?_
        refine fx_sld hx hb hX hbl hbA hS (i + 1) (nI_add i 1) (by omega) hN31 dL_law_417 ?_
        refine fx_Vs (rest := []) (sp_before l dC dI A cI cA cZ (mC y cI cZ n ar gl lo pm ca ac hw mK F T Ln Wy Fo Tk Ne ++ pool) z n hn (nI ar) gl fl pr pg ky (nI ac) K B M Ds Bf L (xs (i + 1))) hF (cw_RL_73 hts ⟨Nat.le_of_ble_eq_true rfl, Nat.le_of_ble_eq_true rfl⟩) hA hS hP hK hD hNw 0 0 rfl rfl rfl hl.1 rfl (Nat.le_of_ble_eq_true rfl) dL_law_418 ⟨by show cells ≤ 600000; omega, by show slots ≤ 7302249; omega⟩ (fun r1 h1 => ?_)
        refine lv_pop hx hb dL_law_421 rfl ?_
        refine lv_aload_n hx hb dL_law_422 rfl (lv_at hl 2 rfl) ?_
        refine lv_aload_n hx hb dL_law_423 rfl (lv_at hl 0 rfl) ?_
        refine lv_iload_n hx hb dL_law_424 rfl (lv_at hl 3 rfl) ?_
        refine lv_iconst (v := 1) hx hb dL_law_425 (by decide) ?_
        refine lv_iadd hx hb dL_law_426 ?_
        refine fx_sld hx hb hX hbl hbA hS (i + 1) (nI_add i 1) (by omega) hN31 dL_law_427 ?_
        refine fx_Vs (rest := []) (sq_before l dC dI A cI cA cZ pool (xc0 z n (nI ar) gl fl pr pg ky (nI ac)) (xcI z 1 cI n K) (xcI z 2 cI n B) (xcI z 3 cI 32 M) (xcQ z 4 cA n L) (xcI z 5 cI n Ds) (xcI z 6 cI n Bf) y n hn ar gl lo pm ca ac hw mK F T Ln Wy Fo Tk Ne (xs (i + 1))) hF (cw_RL_76 hts ⟨Nat.le_of_ble_eq_true rfl, Nat.le_of_ble_eq_true rfl⟩) hA hS hP hK hD hNw 7 2 rfl rfl rfl hl.1 rfl (Nat.le_of_ble_eq_true rfl) dL_law_428 ⟨by show cells ≤ 600000; omega, by show slots ≤ 7302249; omega⟩ (fun r2 h2 => ?_)
        refine lv_pop hx hb dL_law_431 rfl ?_
        refine lv_goto (tgt := 471) hx hb dL_law_432 (by decide) ?_
        exact KT ac fl pr pg ky K B M Ds Bf L pool as lo pm ca hw mK F T Ln Wy Fo Tk Ne H locs cells slots ls (hI) (by omega) (by omega) hP hD hS hl
      · -- 13
        refine lv_tableIn (tgt := 435) (off := 373) hx hb dL_law_62 (by decide) (by decide) (by decide) (by decide) ?_
        refine lv_aload_n hx hb dL_law_435 rfl (lv_at hl 1 rfl) ?_
        refine fx_Vs (rest := []) (sp_sound l dC dI A cI cA cZ (mC y cI cZ n ar gl lo pm ca ac hw mK F T Ln Wy Fo Tk Ne ++ pool) z n hn (nI ar) gl fl pr pg ky (nI ac) K B M Ds Bf L hs) hF (cw_RL_77 hts ⟨Nat.le_of_ble_eq_true rfl, Nat.le_of_ble_eq_true rfl⟩) hA hS hP hK hD hNw 0 0 rfl rfl rfl hl.1 rfl (Nat.le_of_ble_eq_true rfl) dL_law_436 ⟨by show cells ≤ 600000; omega, by show slots ≤ 7302249; omega⟩ (fun r1 h1 => ?_)
        refine lv_pop hx hb dL_law_439 rfl ?_
        refine lv_aload_n hx hb dL_law_440 rfl (lv_at hl 2 rfl) ?_
        refine fx_Vs (rest := []) (sq_sound l dC dI A cI cA cZ pool (xc0 z n (nI ar) gl fl pr pg ky (nI ac)) (xcI z 1 cI n K) (xcI z 2 cI n B) (xcI z 3 cI 32 M) (xcQ z 4 cA n L) (xcI z 5 cI n Ds) (xcI z 6 cI n Bf) y n hn ar gl lo pm ca ac hw mK F T Ln Wy Fo Tk Ne) hF (cw_RL_81 hts ⟨Nat.le_of_ble_eq_true rfl, Nat.le_of_ble_eq_true rfl⟩) hA hS hP hK hD hNw 7 2 rfl rfl rfl hl.1 rfl (Nat.le_of_ble_eq_true rfl) dL_law_441 ⟨by show cells ≤ 600000; omega, by show slots ≤ 7302249; omega⟩ (fun r2 h2 => ?_)
        refine lv_pop hx hb dL_law_444 rfl ?_
        refine lv_goto (tgt := 471) hx hb dL_law_445 (by decide) ?_
        exact KT ac fl pr pg ky K B M Ds Bf L pool as lo pm ca hw mK F T Ln Wy Fo Tk Ne H locs cells slots ls (hI) (by omega) (by omega) hP hD hS hl
      · -- 14
        refine lv_tableIn (tgt := 448) (off := 386) hx hb dL_law_62 (by decide) (by decide) (by decide) (by decide) ?_
        refine lv_aload_n hx hb dL_law_448 rfl (lv_at hl 1 rfl) ?_
        refine lv_aload_n hx hb dL_law_449 rfl (lv_at hl 0 rfl) ?_
        refine lv_iload_n hx hb dL_law_450 rfl (lv_at hl 3 rfl) ?_
        refine lv_iconst (v := 1) hx hb dL_law_451 (by decide) ?_
        refine lv_iadd hx hb dL_law_452 ?_
        refine fx_sld hx hb hX hbl hbA hS (i + 1) (nI_add i 1) (by omega) hN31 dL_law_453 ?_
        refine fx_Vs (rest := []) (sp_count l dC dI A cI cA cZ (mC y cI cZ n ar gl lo pm ca ac hw mK F T Ln Wy Fo Tk Ne ++ pool) z n hn (nI ar) gl fl pr pg ky (nI ac) K B M Ds Bf L (xs (i + 1))) hF (cw_RL_82 hts ⟨Nat.le_of_ble_eq_true rfl, Nat.le_of_ble_eq_true rfl⟩) hA hS hP hK hD hNw 0 0 rfl rfl rfl hl.1 rfl (Nat.le_of_ble_eq_true rfl) dL_law_454 ⟨by show cells ≤ 600000; omega, by show slots ≤ 7302249; omega⟩ (fun r1 h1 => ?_)
        refine lv_pop hx hb dL_law_457 rfl ?_
        refine lv_aload_n hx hb dL_law_458 rfl (lv_at hl 2 rfl) ?_
        refine lv_aload_n hx hb dL_law_459 rfl (lv_at hl 0 rfl) ?_
        refine lv_iload_n hx hb dL_law_460 rfl (lv_at hl 3 rfl) ?_
        refine lv_iconst (v := 1) hx hb dL_law_461 (by decide) ?_
        refine lv_iadd hx hb dL_law_462 ?_
        refine fx_sld hx hb hX hbl hbA hS (i + 1) (nI_add i 1) (by omega) hN31 dL_law_463 ?_
        refine fx_Vs (rest := []) (sq_count l dC dI A cI cA cZ pool (xc0 z n (nI ar) gl fl pr pg ky (nI ac)) (xcI z 1 cI n K) (xcI z 2 cI n B) (xcI z 3 cI 32 M) (xcQ z 4 cA n L) (xcI z 5 cI n Ds) (xcI z 6 cI n Bf) y n hn ar gl lo pm ca ac hw mK F T Ln Wy Fo Tk Ne (xs (i + 1))) hF (cw_RL_85 hts ⟨Nat.le_of_ble_eq_true rfl, Nat.le_of_ble_eq_true rfl⟩) hA hS hP hK hD hNw 7 2 rfl rfl rfl hl.1 rfl (Nat.le_of_ble_eq_true rfl) dL_law_464 ⟨by show cells ≤ 600000; omega, by show slots ≤ 7302249; omega⟩ (fun r2 h2 => ?_)
        refine lv_pop hx hb dL_law_467 rfl ?_
        refine lv_goto (tgt := 471) hx hb dL_law_468 (by decide) ?_
        exact KT ac fl pr pg ky K B M Ds Bf L pool as lo pm ca hw mK F T Ln Wy Fo Tk Ne H locs cells slots ls (hI) (by omega) (by omega) hP hD hS hl
      · -- 15
        refine lv_tableOut (tgt := 471) hx hb dL_law_62 (Or.inr (by decide)) (by decide) ?_
        exact KT ac fl pr pg ky K B M Ds Bf L pool as lo pm ca hw mK F T Ln Wy Fo Tk Ne H locs cells slots ls (hI) (by omega) (by omega) hP hD hS hl
end
section
set_option maxHeartbeats 4000000 in
set_option maxRecDepth 100000 in
/-- THE LAW, from its entry -/
theorem whole_start {p : Program} {e : Env} {s : State} {m : MethodId} {below : List Frame} {meth : Method} {c : Code} (l : Launch) {b L : Nat} {xs : Nat → Int32} (hL : L ≤ 2051) (C0 : lw_At p s m meth c b L xs) : W p l e room_1 s m #[Value.ref b] below meth c s.heap [] 0 0 (lw_Z below #[Value.ref b] s) (entryFrame m ([Value.ref b] : List Value).toArray 4) := by
  obtain ⟨hx, hb, hr, hml, hown, hts0, hX, hbl, hlocks, hgv⟩ := id C0
  have hts := fun w (h : w ∈ wsL_law) => hts0 w (wsL_law_in w h)
  have hF : CallFix p m c code 4 s #[Value.ref b] wsL_law RL := ⟨hx, hb, hml, hown, hts⟩
  have hA : ∀ q : Nat, s.heap.size ≤ q → (fun q : Nat => s.heap.size ≤ q) q := fun _ h => h
  have hbA : ¬ (fun q : Nat => s.heap.size ≤ q) b := Nat.not_le.mpr hbl
  obtain ⟨cc0, iS0, hKn0⟩ := u_known (C := RX1) (T := TX1) (N := 14) (n := 14) hts0 inX1 (hts _ km_1)
  obtain ⟨cc1, iS1, hKn1⟩ := u_known (C := RX0) (T := TX0) (N := 3) (n := 3) hts0 inX0 (hts _ km_194)
  obtain ⟨cc2, iS2, hKn2⟩ := u_known (C := RX2) (T := TX2) (N := 16) (n := 16) hts0 inX2 (hts _ km_4)
  obtain ⟨dC, dI, hKc⟩ : ∃ (dC : Nat → ClassId) (dI : Nat → Nat → Nat), ∀ (k : Nat) (q : vw_C), classes[k]? = some q → u_Kn s q.1 q.2.1 q.2.2 (dC k) (dI k) := by
    refine ⟨fun k => if k = 0 then cc0 else if k = 1 then cc1 else cc2, fun k => if k = 0 then iS0 else if k = 1 then iS1 else iS2, ?_⟩
    intro k q hq
    match k, hq with
    | 0, hq => cases hq; exact hKn0
    | 1, hq => cases hq; exact hKn1
    | 2, hq => cases hq; exact hKn2
    | k + 3, hq => simp [classes] at hq
  obtain ⟨cI, kI, pI, i1, i2, i3⟩ := Cond.arrayClass_spec (hts _ km_26)
  obtain ⟨cZ, kZ, pZ, z1, z2, z3⟩ := Cond.arrayClass_spec (hts _ km_48)
  have hao : va_AO "FloorQueue$Arc" s := va_AO.of (hts0 (.arrayOver (.object "FloorQueue$Arc")) (by decide +kernel))
  obtain ⟨pA, cA, kA, a1, -, a2, a3, a4⟩ := Cond.arrayOver_spec hao
  have hNw : fq_N s := ⟨va_Nw.of rfl (hts0 (.fieldLinkNest RX1 142 "FloorQueue$Arc" "end" "I" "FloorQueue") (by decide +kernel)), va_Nw.of rfl (hts0 (.fieldLinkNest RX1 145 "FloorQueue$Arc" "length" "I" "FloorQueue") (by decide +kernel)), va_Nw.of rfl (hts0 (.fieldLinkNest RX1 138 "FloorQueue$Arc" "earlier" "LFloorQueue$Arc;" "FloorQueue") (by decide +kernel)), va_Nw.of rfl (hts0 (.methodLinkNest RX1 99 yX0_init "FloorQueue") (by decide +kernel)), hao⟩
  have hK : va_K (dC, dI) classes (fq_ty cI cA cZ) s := by
    refine ⟨hKc, fun k q hq => ?_⟩
    match k, hq with
    | 0, hq => cases hq; exact ⟨fun n z => ⟨fun k h => (by cases h), kI, i2, pI, i3⟩, i1⟩
    | 1, hq => cases hq; exact ⟨fun n z => ⟨fun k h => (by cases h), kA, a2, pA, a3⟩, kA, pA, a2, a3, a1, a4⟩
    | 2, hq => cases hq; exact ⟨fun n z => ⟨fun k h => (by cases h), kZ, z2, pZ, z3⟩, z1⟩
    | k + 3, hq => simp [fq_ty] at hq
  have hS : va_S (fun q : Nat => s.heap.size ≤ q) s.heap s.heap [] := va_S.rf
  have hP : va_P (dC, dI) classes [] s.heap := fun k q h => by simp at h
  have hD : va_D (fun q : Nat => s.heap.size ≤ q) [] := ⟨fun i j p q h => by simp at h, fun k q h => by simp at h⟩
  have hl := lv_entry ([.ref b]) (n := 4) (Nat.le_of_ble_eq_true rfl)
  rw [lg_entry_eq]
  generalize (lg_sl ([.ref b]) ++ List.replicate (4 - (lg_sl ([.ref b])).length) Slot.unset).toArray = ls at hl ⊢
  have hl : lv_has ls 4 [(0, .ref b)] := hl
  have hL31 : L < 2 ^ 31 := by omega
  refine va_new (ci := 0) (fs := [.int 0, .int 0, .int 0, .null, .null, .null, .int 0, .int 0, .int 0, .int 0, .null, .int 0, .null, .null]) (C := RX1) (T := TX1) (N := 14) hx hb hts0 inX1 tyX1 tyX1_ok hown (hts _ km_0) (hts _ km_1) (hts _ km_2) hK hP hD hS hA rfl (fun j9 hj9 => by rcases (show j9 = 0 ∨ j9 = 1 ∨ j9 = 2 ∨ j9 = 3 ∨ j9 = 4 ∨ j9 = 5 ∨ j9 = 6 ∨ j9 = 7 ∨ j9 = 8 ∨ j9 = 9 ∨ j9 = 10 ∨ j9 = 11 ∨ j9 = 12 ∨ j9 = 13 by omega) with rfl | rfl | rfl | rfl | rfl | rfl | rfl | rfl | rfl | rfl | rfl | rfl | rfl | rfl <;> rfl) (by show 0 + 1 ≤ 600000; omega) (by show 0 + 14 ≤ 7302249; omega) dL_law_0 (fun qx H hP hD hS => ?_)
  have hP : va_P (dC, dI) classes [(qx, .inr (0, [.int 0, .int 0, .int 0, .null, .null, .null, .int 0, .int 0, .int 0, .int 0, .null, .int 0, .null, .null]))] H := hP
  have hD : va_D (fun q : Nat => s.heap.size ≤ q) [(qx, .inr (0, [.int 0, .int 0, .int 0, .null, .null, .null, .int 0, .int 0, .int 0, .int 0, .null, .int 0, .null, .null]))] := hD
  refine W.widen (k := 1) (n := 14) (by omega) (by omega) ?_
  refine lv_dup hx hb dL_law_3 rfl ?_
  refine lv_aload_n hx hb dL_law_4 rfl (lv_at hl 0 rfl) ?_
  refine lv_iconst (v := 0) hx hb dL_law_5 (by decide) ?_
  refine fx_cell (rest := [.ref qx, .ref qx]) (b := b) (N := L) (xs := xs) hx hb hF hX hbl hbA hS 0 (by decide) hL31 ⟨Nat.le_of_ble_eq_true rfl, Nat.le_of_ble_eq_true rfl⟩ hl.1 (Nat.le_of_ble_eq_true rfl) ⟨by show 1 ≤ 600000; omega, by show 14 ≤ 7302249; omega⟩ dL_law_6 ?_
  refine lv_aload_n hx hb dL_law_9 rfl (lv_at hl 0 rfl) ?_
  refine lv_iconst (v := 1) hx hb dL_law_10 (by decide) ?_
  refine fx_cell (rest := [.int (fqcell L xs 0), .ref qx, .ref qx]) (b := b) (N := L) (xs := xs) hx hb hF hX hbl hbA hS 1 (by decide) hL31 ⟨Nat.le_of_ble_eq_true rfl, Nat.le_of_ble_eq_true rfl⟩ hl.1 (Nat.le_of_ble_eq_true rfl) ⟨by show 1 ≤ 600000; omega, by show 14 ≤ 7302249; omega⟩ dL_law_11 ?_
  refine lv_aload_n hx hb dL_law_14 rfl (lv_at hl 0 rfl) ?_
  refine lv_iconst (v := 2) hx hb dL_law_15 (by decide) ?_
  refine fx_cell (rest := [.int (fqcell L xs 1), .int (fqcell L xs 0), .ref qx, .ref qx]) (b := b) (N := L) (xs := xs) hx hb hF hX hbl hbA hS 2 (by decide) hL31 ⟨Nat.le_of_ble_eq_true rfl, Nat.le_of_ble_eq_true rfl⟩ hl.1 (Nat.le_of_ble_eq_true rfl) ⟨by show 1 ≤ 600000; omega, by show 14 ≤ 7302249; omega⟩ dL_law_16 ?_
  refine fx_Iv (rest := [.ref qx]) (sp_init l dC dI (fun q : Nat => s.heap.size ≤ q) cI cA cZ qx (fqcell L xs 0) (fqcell L xs 1) (fqcell L xs 2)) hF (cw_RL_15 hts ⟨Nat.le_of_ble_eq_true rfl, Nat.le_of_ble_eq_true rfl⟩) hA hS hP hK hD hNw rfl hl.1 rfl (Nat.le_of_ble_eq_true rfl) dL_law_19 ⟨by show 1 + 6 ≤ 600000; omega, by show 14 + 232 ≤ 7302249; omega⟩ (fun z H locs hz hP hD hS => ?_)
  rw [← hz]
  have hP : va_P (dC, dI) classes (wX z cI cA (fqlim (fqcell L xs 0) 40) (nI (fqlim (fqcell L xs 1) 300)) (fqpos (fqcell L xs 2)) 0 0 0 0 0 (fun _ => 0) (fqfill (fqlim (fqcell L xs 0) 40) (-1) (fun _ => 0)) (fun _ => 0) (fqfill (fqlim (fqcell L xs 0) 40) (-1) (fun _ => 0)) (fqfill (fqlim (fqcell L xs 0) 40) (-1) (fun _ => 0)) (fun _ => none)) H := hP
  have hD : va_D (fun q : Nat => s.heap.size ≤ q) (wX z cI cA (fqlim (fqcell L xs 0) 40) (nI (fqlim (fqcell L xs 1) 300)) (fqpos (fqcell L xs 2)) 0 0 0 0 0 (fun _ => 0) (fqfill (fqlim (fqcell L xs 0) 40) (-1) (fun _ => 0)) (fun _ => 0) (fqfill (fqlim (fqcell L xs 0) 40) (-1) (fun _ => 0)) (fqfill (fqlim (fqcell L xs 0) 40) (-1) (fun _ => 0)) (fun _ => none)) := hD
  refine lv_astore_n (lv' := [(1, .ref (z 0)), (0, .ref b)]) hx hb dL_law_22 rfl hl (by decide) rfl (fun ls hl => ?_)
  refine W.widen (k := 7) (n := 246) (by omega) (by omega) ?_
  refine va_new (ci := 2) (fs := [.int 0, .int 0, .int 0, .null, .int 0, .int 0, .int 0, .int 0, .null, .null, .null, .int 0, .null, .null, .null, .null]) (C := RX2) (T := TX2) (N := 16) hx hb hts0 inX2 tyX2 tyX2_ok hown (hts _ km_3) (hts _ km_4) (hts _ km_5) hK hP hD hS hA rfl (fun j9 hj9 => by rcases (show j9 = 0 ∨ j9 = 1 ∨ j9 = 2 ∨ j9 = 3 ∨ j9 = 4 ∨ j9 = 5 ∨ j9 = 6 ∨ j9 = 7 ∨ j9 = 8 ∨ j9 = 9 ∨ j9 = 10 ∨ j9 = 11 ∨ j9 = 12 ∨ j9 = 13 ∨ j9 = 14 ∨ j9 = 15 by omega) with rfl | rfl | rfl | rfl | rfl | rfl | rfl | rfl | rfl | rfl | rfl | rfl | rfl | rfl | rfl | rfl <;> rfl) (by show 7 + 1 ≤ 600000; omega) (by show 246 + 16 ≤ 7302249; omega) dL_law_23 (fun qm H hP hD hS => ?_)
  have hP : va_P (dC, dI) classes [(xc0 z (fqlim (fqcell L xs 0) 40) (nI (fqlim (fqcell L xs 1) 300)) (fqpos (fqcell L xs 2)) 0 0 0 0 0), (xcI z 1 cI (fqlim (fqcell L xs 0) 40) (fun _ => 0)), (xcI z 2 cI (fqlim (fqcell L xs 0) 40) (fqfill (fqlim (fqcell L xs 0) 40) (-1) (fun _ => 0))), (xcI z 3 cI 32 (fun _ => 0)), (xcQ z 4 cA (fqlim (fqcell L xs 0) 40) (fun _ => none)), (xcI z 5 cI (fqlim (fqcell L xs 0) 40) (fqfill (fqlim (fqcell L xs 0) 40) (-1) (fun _ => 0))), (xcI z 6 cI (fqlim (fqcell L xs 0) 40) (fqfill (fqlim (fqcell L xs 0) 40) (-1) (fun _ => 0))), (qm, .inr (2, [.int 0, .int 0, .int 0, .null, .int 0, .int 0, .int 0, .int 0, .null, .null, .null, .int 0, .null, .null, .null, .null]))] H := hP
  have hD : va_D (fun q : Nat => s.heap.size ≤ q) [(xc0 z (fqlim (fqcell L xs 0) 40) (nI (fqlim (fqcell L xs 1) 300)) (fqpos (fqcell L xs 2)) 0 0 0 0 0), (xcI z 1 cI (fqlim (fqcell L xs 0) 40) (fun _ => 0)), (xcI z 2 cI (fqlim (fqcell L xs 0) 40) (fqfill (fqlim (fqcell L xs 0) 40) (-1) (fun _ => 0))), (xcI z 3 cI 32 (fun _ => 0)), (xcQ z 4 cA (fqlim (fqcell L xs 0) 40) (fun _ => none)), (xcI z 5 cI (fqlim (fqcell L xs 0) 40) (fqfill (fqlim (fqcell L xs 0) 40) (-1) (fun _ => 0))), (xcI z 6 cI (fqlim (fqcell L xs 0) 40) (fqfill (fqlim (fqcell L xs 0) 40) (-1) (fun _ => 0))), (qm, .inr (2, [.int 0, .int 0, .int 0, .null, .int 0, .int 0, .int 0, .int 0, .null, .null, .null, .int 0, .null, .null, .null, .null]))] := hD
  refine W.widen (k := 8) (n := 262) (by omega) (by omega) ?_
  refine lv_dup hx hb dL_law_26 rfl ?_
  refine lv_aload_n hx hb dL_law_27 rfl (lv_at hl 1 rfl) ?_
  refine lv_iconst (v := 0) hx hb dL_law_28 (by decide) ?_
  refine fx_cell (rest := [.ref qm, .ref qm]) (b := b) (N := L) (xs := xs) hx hb hF hX hbl hbA hS 0 (by decide) hL31 ⟨Nat.le_of_ble_eq_true rfl, Nat.le_of_ble_eq_true rfl⟩ hl.1 (Nat.le_of_ble_eq_true rfl) ⟨by show 8 ≤ 600000; omega, by show 262 ≤ 7302249; omega⟩ dL_law_29 ?_
  refine lv_aload_n hx hb dL_law_32 rfl (lv_at hl 1 rfl) ?_
  refine lv_iconst (v := 1) hx hb dL_law_33 (by decide) ?_
  refine fx_cell (rest := [.int (fqcell L xs 0), .ref qm, .ref qm]) (b := b) (N := L) (xs := xs) hx hb hF hX hbl hbA hS 1 (by decide) hL31 ⟨Nat.le_of_ble_eq_true rfl, Nat.le_of_ble_eq_true rfl⟩ hl.1 (Nat.le_of_ble_eq_true rfl) ⟨by show 8 ≤ 600000; omega, by show 262 ≤ 7302249; omega⟩ dL_law_34 ?_
  refine lv_aload_n hx hb dL_law_37 rfl (lv_at hl 1 rfl) ?_
  refine lv_iconst (v := 2) hx hb dL_law_38 (by decide) ?_
  refine fx_cell (rest := [.int (fqcell L xs 1), .int (fqcell L xs 0), .ref qm, .ref qm]) (b := b) (N := L) (xs := xs) hx hb hF hX hbl hbA hS 2 (by decide) hL31 ⟨Nat.le_of_ble_eq_true rfl, Nat.le_of_ble_eq_true rfl⟩ hl.1 (Nat.le_of_ble_eq_true rfl) ⟨by show 8 ≤ 600000; omega, by show 262 ≤ 7302249; omega⟩ dL_law_39 ?_
  refine fx_Iv (rest := [.ref qm]) (sq_init l dC dI (fun q : Nat => s.heap.size ≤ q) cI cA cZ (xc0 z (fqlim (fqcell L xs 0) 40) (nI (fqlim (fqcell L xs 1) 300)) (fqpos (fqcell L xs 2)) 0 0 0 0 0) (xcI z 1 cI (fqlim (fqcell L xs 0) 40) (fun _ => 0)) (xcI z 2 cI (fqlim (fqcell L xs 0) 40) (fqfill (fqlim (fqcell L xs 0) 40) (-1) (fun _ => 0))) (xcI z 3 cI 32 (fun _ => 0)) (xcQ z 4 cA (fqlim (fqcell L xs 0) 40) (fun _ => none)) (xcI z 5 cI (fqlim (fqcell L xs 0) 40) (fqfill (fqlim (fqcell L xs 0) 40) (-1) (fun _ => 0))) (xcI z 6 cI (fqlim (fqcell L xs 0) 40) (fqfill (fqlim (fqcell L xs 0) 40) (-1) (fun _ => 0))) qm (fqcell L xs 0) (fqcell L xs 1) (fqcell L xs 2)) hF (cw_RL_20 hts ⟨Nat.le_of_ble_eq_true rfl, Nat.le_of_ble_eq_true rfl⟩) hA hS hP hK hD hNw rfl hl.1 rfl (Nat.le_of_ble_eq_true rfl) dL_law_42 ⟨by show 8 + 8 ≤ 600000; omega, by show 262 + 1100 ≤ 7302249; omega⟩ (fun y H locs hy hP hD hS => ?_)
  rw [← hy]
  refine lv_astore_n (lv' := [(2, .ref (y 0)), (1, .ref (z 0)), (0, .ref b)]) hx hb dL_law_45 rfl hl (by decide) rfl (fun ls hl => ?_)
  refine lv_iconst (v := 3) hx hb dL_law_46 (by decide) ?_
  refine lv_istore_n (lv' := [(3, .int (nI 3)), (2, .ref (y 0)), (1, .ref (z 0)), (0, .ref b)]) hx hb dL_law_47 rfl hl (by decide) rfl (fun ls hl => ?_)
  exact law_loop l hL C0 dC dI cI cA cZ hK hNw z y (fqlim (fqcell L xs 0) 40) (fqlim (fqcell L xs 1) 300) (fqpos (fqcell L xs 2)) (fqlim_le _ (by decide) (by decide)).2 (fqlim_le _ (by decide) (by decide)).2 (L + 1) 3 0 0 0 0 0 (fun _ => 0) (fqfill (fqlim (fqcell L xs 0) 40) (-1) (fun _ => 0)) (fun _ => 0) (fqfill (fqlim (fqcell L xs 0) 40) (-1) (fun _ => 0)) (fqfill (fqlim (fqcell L xs 0) 40) (-1) (fun _ => 0)) (fun _ => none) [] (fun _ => []) 0 0 0 0 (fqfill 40 (-1) (fun _ => 0)) (fun _ => 0) (fun _ => 0) (fun _ => 0) (fun _ => 0) (fun _ => 0) (fun _ => 0) (fun _ => 0) H locs 16 1362 ls (by omega) (by omega) (li_start (fqlim_le _ (by decide) (by decide)).2 (fqlim_le _ (by decide) (by decide)).1) (by omega) (by omega) hP hD hS (lv_sub hl [3, 2, 1, 0] rfl)
end
section

set_option maxHeartbeats 4000000 in
theorem lw_walk (l : Launch) (b : Addr) (xs : List Int32) : MetFree l x (headSpec (Jvm.Cond.code x code maxLocals ret :: tables_1) room_1) (lw_P b xs) (fun _ _ _ _ _ => True) lw_Q := by
  refine MetFree.of_bodyS (code := code) (maxLocals := maxLocals) (ret := ret) (by decide) ?_ ?_
  · intro args s m h hn
    obtain ⟨meth, c, h1, h2, h3, h4, h5, h6, -, -⟩ := Cond.code_spec hn (atoms_spec (ws := Jvm.Cond.code x code maxLocals ret :: tables_1) h _ List.mem_cons_self)
    exact ⟨meth, c, h1, h2, h3, h4, h5, h6⟩
  · intro p e s m args below meth c s₁ B hml0 hP _
    obtain ⟨rfl, hx, hbd, hgv⟩ := hP
    obtain ⟨scr, harrAt, hlist, hof, hsmall⟩ := hx
    obtain ⟨hcb, hkn, -, -⟩ := State.arrayAt?_spec harrAt
    have hown : s.vm.findClass R_law = some m.cls := findClass_of_methodNamed B.named
    have hts0 : ∀ c ∈ (Jvm.Cond.code x code maxLocals ret :: tables_1), c.before #[Value.ref b] s = true := atoms_spec (ws := Jvm.Cond.code x code maxLocals ret :: tables_1) B.pre
    have hts : ∀ w ∈ lw_tbl, w.before #[Value.ref b] s = true := k2_hts_sels lw_privs (fun w hw => hts0 w (List.mem_cons_of_mem _ hw)) lw_privs_ok
    have hml : c.maxLocals = 4 := B.maxLocals_eq (hts0 _ List.mem_cons_self)
    have X₀ : Stand p l e room_1 s m #[Value.ref b] below meth c s₁ [] 0 0 := Stand.of_body B
    have hh0 : s₁.heap = s.heap := by rw [B.state]; rfl
    have hsz : scr.slots.size = xs.length := by rw [← Array.length_toList, hlist, List.length_map]
    have hval : ∀ j : Nat, j < xs.length → scr.slots[j]? = some (.int (xs.getD j 0)) := fun j hj => by
      rw [← Array.getElem?_toList, hlist]
      simp [hj]
    have hbl : b < s.heap.size := (Array.getElem?_eq_some_iff.mp hcb).1
    have hX : va_X b xs.length (fun j => xs.getD j 0) s s.heap := ⟨scr, hcb, hof, hkn, hsz, hval⟩
    have K : W p l e room_1 s m #[Value.ref b] below meth c s₁.heap [] 0 0 (lw_Z below #[Value.ref b] s) (entryFrame m ([Value.ref b] : List Value).toArray 4) := by
      rw [hh0]
      exact whole_start l hbd ⟨B.exec, B.bytes, B.returns, hml, hown, hts, hX, hbl, B.notSynchronized, hgv⟩
    obtain ⟨t, a1, o, b1, b2, b3⟩ := K s₁ rfl X₀
    exact ⟨t, o, a1, b1, b2, b3⟩
theorem lw_pre_spec {args : Array Value} {s : State} (h : (Jvm.Cond.and given_1 narrow_1).before args s = true) (hr : rest_1_c.before args s = true) : ∃ (b : Addr) (xs : List Int32), lw_P b xs args s := by
  have hs := flat_of_before _ h
  have hq := flat_of_before _ hr
  have hc : (Cond.count 1).before args s = true := hs _ (by decide +kernel)
  have harr : (Cond.arrayOf (.arg 0) .int).before args s = true := hs _ (by decide +kernel)
  have hle : (Cond.le (.length (.arg 0)) (.int 2051)).before args s = true := hs _ (by decide +kernel)
  have hlen : (Cond.isInt (.length (.arg 0))).before args s = true := hq _ (by decide +kernel)
  have hall : (Cond.all (.arg 0) (.isInt (.elem (.arg 0) (.index 0)))).before args s = true := hq _ (by decide +kernel)
  obtain ⟨b, xs, hb, hx⟩ := State.ints_of_pre rfl harr hlen hall
  have hsm : xs.length < 2 ^ 31 := hx.choose_spec.2.2.2
  have hev : (Term.length (.arg 0)).eval args s none [] s = some (.int xs.length.toInt32) := hx.length_eval hb
  have hv := Cond.le_ints hev (show (Term.int 2051).eval args s none [] s = some (.int 2051) from rfl)
  have hd : xs.length.toInt32 ≤ 2051 := by
    simpa [Cond.before, Cond.holds, hv] using hle
  have hN : xs.length ≤ 2051 := (Int32.ofNat_le_ofNat hsm (by decide)).mp (show Int32.ofNat xs.length ≤ Int32.ofNat 2051 from hd)
  exact ⟨b, xs, Cond.one_arg hc (show args[0]? = some (.ref b) from hb), hx, hN, h⟩
theorem lw_comes (l : Launch) : Comes l x (Jvm.Cond.code x code maxLocals ret :: tables_1) room_1 (fun tb e args s => Calls_1 tb e args s ∧ rest_1 tb e args s ∧ Pre_1 tb e args s)
    (fun _ _ args s o t => lw_Q args s o t) := by
  intro p e ha hc hk s m args below hf hfit hheap happ hpre
  obtain ⟨b, xs, hP⟩ := lw_pre_spec hpre.2.2 hpre.2.1
  obtain ⟨k, o, h1, h2, h3, hQ⟩ := lw_walk l b xs p e ha hc hk s m args below hf ((Spec.applies_iff_loose hf).mp happ).1 hP trivial
  exact ⟨k, o, h1, h2, h3, hQ⟩
theorem lw_frame {s t : State} {o : Outcome} {args : Array Value} (h : Framed s o t [] 600000 7302249) :
    Framed s o t (fieldLocs frame_1_writes args s ++ arrayLocs frame_1_arrays args s ++ staticLocs frame_1_statics s) 600000 7302249 := h
theorem lw_limb (L : Cond) (hL : ∀ (args : Array Value) (s t : State), L.after args s (.returned (some (.int 1))) t = true) :
    ArmFor flags0 classFile x code maxLocals ret World_1 tables_1 room_1 Calls_1 rest_1 Pre_1
      (fun tb e a s o t => postC L tb e a s o t ∧ Framed s o t (fieldLocs frame_1_writes a s ++ arrayLocs frame_1_arrays a s ++ staticLocs frame_1_statics s) 600000 7302249) := by
  intro l _ _ _ p e ha hc hk s m args below hf hfit hheap happ hpre
  obtain ⟨k, o, h1, h2, h3, rfl, hF⟩ := lw_comes l p e ha hc hk s m args below hf hfit hheap happ hpre
  exact ⟨k, _, h1, h2, h3, hL args s _, lw_frame hF⟩
theorem i_vc : Claimed_1_1 ∧ Claimed_1_2 := ⟨lw_limb limb_1_1 (fun args s t => by simp [limb_1_1, Cond.after, Cond.holds, Cond.value]), lw_limb limb_1_2 (fun args s t => Cond.after_iff.mpr (by
  first | (rw [show limb_1_2 = Cond.eq .result (.int 1) from rfl, Cond.eq_ints (x := 1) (y := 1) rfl rfl]; simp; done) | (simp [limb_1_2, Cond.value, Term.eval]; done)))⟩
end
