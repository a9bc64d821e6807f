def RX4 : String := "JournalDiskModel"
def TX4 : u_T := fun k => match k with
  | 0 => ("JournalDiskModel", "now", "[I", true)
  | 1 => ("JournalDiskModel", "kept", "[I", true)
  | 2 => ("JournalDiskModel", "made", "[I", true)
  | 3 => ("JournalDiskModel", "node", "[I", true)
  | 4 => ("JournalDiskModel", "position", "[I", true)
  | 5 => ("JournalDiskModel", "lock", "[I", true)
  | 6 => ("JournalDiskModel", "waiting", "I", false)
  | 7 => ("JournalDiskModel", "mounts", "I", false)
  | 8 => ("JournalDiskModel", "isDown", "Z", false)
  | 9 => ("JournalDiskModel", "when", "I", false)
  | 10 => ("JournalDiskModel", "bytes", "I", false)
  | 11 => ("JournalDiskModel", "followed", "I", false)
  | 12 => ("JournalDiskModel", "thrown", "I", false)
  | _ => ("JournalDiskModel", "d", "J", false)
def tyX4 : Nat → FieldType := fun k => match k with
  | 0 => .array .int
  | 1 => .array .int
  | 2 => .array .int
  | 3 => .array .int
  | 4 => .array .int
  | 5 => .array .int
  | 6 => .int
  | 7 => .int
  | 8 => .boolean
  | 9 => .int
  | 10 => .int
  | 11 => .int
  | 12 => .int
  | _ => .long
theorem nmX4 : ∀ a, a < 14 → ∀ b, b < 14 → a ≠ b → (TX4 a).2.1 ≠ (TX4 b).2.1 := by decide +kernel
theorem tyX4_ok : ∀ k, k < 14 → parseFieldDescriptor (TX4 k).2.2.1 = some (tyX4 k) := by decide +kernel
def RX0 : String := "JournalDisk$Handle"
def TX0 : u_T := fun k => match k with
  | 0 => ("JournalDisk$Handle", "isOpen", "Z", false)
  | 1 => ("JournalDisk$Handle", "node", "I", false)
  | 2 => ("JournalDisk$Handle", "position", "I", false)
  | _ => ("JournalDisk$Handle", "locks", "[I", true)
def tyX0 : Nat → FieldType := fun k => match k with
  | 0 => .boolean
  | 1 => .int
  | 2 => .int
  | _ => .array .int
theorem nmX0 : ∀ a, a < 4 → ∀ b, b < 4 → a ≠ b → (TX0 a).2.1 ≠ (TX0 b).2.1 := by decide +kernel
theorem tyX0_ok : ∀ k, k < 4 → parseFieldDescriptor (TX0 k).2.2.1 = some (tyX0 k) := by decide +kernel
abbrev cX0_init : ByteArray := prog_2_method_1_code
def yX0_init : MethodName := ⟨RX0, "<init>", "()V"⟩
abbrev cX0_take : ByteArray := prog_2_method_2_code
def yX0_take : MethodName := ⟨RX0, "take", "(I)V"⟩
abbrev cX0_leave : ByteArray := prog_2_method_3_code
def yX0_leave : MethodName := ⟨RX0, "leave", "()V"⟩
abbrev cX0_isOn : ByteArray := prog_2_method_4_code
def yX0_isOn : MethodName := ⟨RX0, "isOn", "(I)Z"⟩
abbrev cX0_lockOn : ByteArray := prog_2_method_5_code
def yX0_lockOn : MethodName := ⟨RX0, "lockOn", "(I)I"⟩
abbrev cX0_setLocks : ByteArray := prog_2_method_6_code
def yX0_setLocks : MethodName := ⟨RX0, "setLocks", "(III)I"⟩
abbrev cX0_isAgainst : ByteArray := prog_2_method_7_code
def yX0_isAgainst : MethodName := ⟨RX0, "isAgainst", "(IIZ)Z"⟩
abbrev cX0_rows : ByteArray := prog_2_method_8_code
def yX0_rows : MethodName := ⟨RX0, "rows", "()I"⟩
def RX1 : String := "JournalDisk$Node"
def TX1 : u_T := fun k => match k with
  | 0 => ("JournalDisk$Node", "sort", "I", false)
  | 1 => ("JournalDisk$Node", "owner", "I", false)
  | 2 => ("JournalDisk$Node", "links", "I", false)
  | 3 => ("JournalDisk$Node", "size", "I", false)
  | 4 => ("JournalDisk$Node", "parent", "I", false)
  | 5 => ("JournalDisk$Node", "up", "I", false)
  | 6 => ("JournalDisk$Node", "first", "I", false)
  | 7 => ("JournalDisk$Node", "second", "I", false)
  | 8 => ("JournalDisk$Node", "entries", "I", false)
  | 9 => ("JournalDisk$Node", "names", "[I", true)
  | 10 => ("JournalDisk$Node", "inside", "[I", true)
  | _ => ("JournalDisk$Node", "blocks", "[I", true)
def tyX1 : Nat → FieldType := fun k => match k with
  | 0 => .int
  | 1 => .int
  | 2 => .int
  | 3 => .int
  | 4 => .int
  | 5 => .int
  | 6 => .int
  | 7 => .int
  | 8 => .int
  | 9 => .array .int
  | 10 => .array .int
  | _ => .array .int
theorem nmX1 : ∀ a, a < 12 → ∀ b, b < 12 → a ≠ b → (TX1 a).2.1 ≠ (TX1 b).2.1 := by decide +kernel
theorem tyX1_ok : ∀ k, k < 12 → parseFieldDescriptor (TX1 k).2.2.1 = some (tyX1 k) := by decide +kernel
abbrev cX1_init : ByteArray := prog_3_method_1_code
def yX1_init : MethodName := ⟨RX1, "<init>", "()V"⟩
abbrev cX1_become : ByteArray := prog_3_method_2_code
def yX1_become : MethodName := ⟨RX1, "become", "(II)V"⟩
abbrev cX1_copyFrom : ByteArray := prog_3_method_3_code
def yX1_copyFrom : MethodName := ⟨RX1, "copyFrom", "(LJournalDisk$Node;)V"⟩
abbrev cX1_aim : ByteArray := prog_3_method_4_code
def yX1_aim : MethodName := ⟨RX1, "aim", "(III)V"⟩
abbrev cX1_isForsaken : ByteArray := prog_3_method_5_code
def yX1_isForsaken : MethodName := ⟨RX1, "isForsaken", "()Z"⟩
abbrev cX1_slotOf : ByteArray := prog_3_method_6_code
def yX1_slotOf : MethodName := ⟨RX1, "slotOf", "(I)I"⟩
abbrev cX1_nodeNamed : ByteArray := prog_3_method_7_code
def yX1_nodeNamed : MethodName := ⟨RX1, "nodeNamed", "(I)I"⟩
abbrev cX1_nodeIn : ByteArray := prog_3_method_8_code
def yX1_nodeIn : MethodName := ⟨RX1, "nodeIn", "(I)I"⟩
abbrev cX1_nameOf : ByteArray := prog_3_method_9_code
def yX1_nameOf : MethodName := ⟨RX1, "nameOf", "(I)I"⟩
abbrev cX1_turnSlot : ByteArray := prog_3_method_10_code
def yX1_turnSlot : MethodName := ⟨RX1, "turnSlot", "(II)V"⟩
abbrev cX1_insert : ByteArray := prog_3_method_11_code
def yX1_insert : MethodName := ⟨RX1, "insert", "(II)V"⟩
abbrev cX1_takeOut : ByteArray := prog_3_method_12_code
def yX1_takeOut : MethodName := ⟨RX1, "takeOut", "(I)V"⟩
abbrev cX1_blockAt : ByteArray := prog_3_method_13_code
def yX1_blockAt : MethodName := ⟨RX1, "blockAt", "(I)I"⟩
abbrev cX1_hasElsewhere : ByteArray := prog_3_method_14_code
def yX1_hasElsewhere : MethodName := ⟨RX1, "hasElsewhere", "(II)Z"⟩
abbrev cX1_ownBlocks : ByteArray := prog_3_method_15_code
def yX1_ownBlocks : MethodName := ⟨RX1, "ownBlocks", "()I"⟩
abbrev cX1_blocksFor : ByteArray := prog_3_method_16_code
def yX1_blocksFor : MethodName := ⟨RX1, "blocksFor", "(I)I"⟩
abbrev cX1_extent : ByteArray := prog_3_method_17_code
def yX1_extent : MethodName := ⟨RX1, "extent", "()I"⟩
abbrev cX1_firstByte : ByteArray := prog_3_method_18_code
def yX1_firstByte : MethodName := ⟨RX1, "firstByte", "(IZ)I"⟩
def RX2 : String := "JournalDisk$Tree"
def TX2 : u_T := fun k => match k with
  | 0 => ("JournalDisk$Tree", "nodes", "[LJournalDisk$Node;", true)
  | 1 => ("JournalDisk$Tree", "nobody", "LJournalDisk$Node;", true)
  | 2 => ("JournalDisk$Tree", "quotas", "[I", true)
  | 3 => ("JournalDisk$Tree", "words", "[J", true)
  | 4 => ("JournalDisk$Tree", "holders", "[I", true)
  | 5 => ("JournalDisk$Tree", "made", "I", false)
  | 6 => ("JournalDisk$Tree", "counted", "[I", true)
  | _ => ("JournalDisk$Tree", "awaited", "[I", true)
def tyX2 : Nat → FieldType := fun k => match k with
  | 0 => .array (.object "JournalDisk$Node")
  | 1 => .object "JournalDisk$Node"
  | 2 => .array .int
  | 3 => .array .long
  | 4 => .array .int
  | 5 => .int
  | 6 => .array .int
  | _ => .array .int
theorem nmX2 : ∀ a, a < 8 → ∀ b, b < 8 → a ≠ b → (TX2 a).2.1 ≠ (TX2 b).2.1 := by decide +kernel
theorem tyX2_ok : ∀ k, k < 8 → parseFieldDescriptor (TX2 k).2.2.1 = some (tyX2 k) := by decide +kernel
abbrev cX2_init : ByteArray := prog_4_method_1_code
def yX2_init : MethodName := ⟨RX2, "<init>", "()V"⟩
abbrev cX2_copyFrom : ByteArray := prog_4_method_2_code
def yX2_copyFrom : MethodName := ⟨RX2, "copyFrom", "(LJournalDisk$Tree;)V"⟩
abbrev cX2_at : ByteArray := prog_4_method_3_code
def yX2_at : MethodName := ⟨RX2, "at", "(I)LJournalDisk$Node;"⟩
abbrev cX2_limitOf : ByteArray := prog_4_method_4_code
def yX2_limitOf : MethodName := ⟨RX2, "limitOf", "(I)I"⟩
abbrev cX2_limit : ByteArray := prog_4_method_5_code
def yX2_limit : MethodName := ⟨RX2, "limit", "(II)V"⟩
abbrev cX2_count : ByteArray := prog_4_method_6_code
def yX2_count : MethodName := ⟨RX2, "count", "()I"⟩
abbrev cX2_make : ByteArray := prog_4_method_7_code
def yX2_make : MethodName := ⟨RX2, "make", "(III)I"⟩
abbrev cX2_freeNumber : ByteArray := prog_4_method_8_code
def yX2_freeNumber : MethodName := ⟨RX2, "freeNumber", "()I"⟩
abbrev cX2_attach : ByteArray := prog_4_method_9_code
def yX2_attach : MethodName := ⟨RX2, "attach", "(III)V"⟩
abbrev cX2_detach : ByteArray := prog_4_method_10_code
def yX2_detach : MethodName := ⟨RX2, "detach", "(II)I"⟩
abbrev cX2_turn : ByteArray := prog_4_method_11_code
def yX2_turn : MethodName := ⟨RX2, "turn", "(III)V"⟩
abbrev cX2_drop : ByteArray := prog_4_method_12_code
def yX2_drop : MethodName := ⟨RX2, "drop", "(I)V"⟩
abbrev cX2_dropForsaken : ByteArray := prog_4_method_13_code
def yX2_dropForsaken : MethodName := ⟨RX2, "dropForsaken", "()I"⟩
abbrev cX2_isBlock : ByteArray := prog_4_method_14_code
def yX2_isBlock : MethodName := ⟨RX2, "isBlock", "(I)Z"⟩
abbrev cX2_isShared : ByteArray := prog_4_method_15_code
def yX2_isShared : MethodName := ⟨RX2, "isShared", "(I)Z"⟩
abbrev cX2_put : ByteArray := prog_4_method_16_code
def yX2_put : MethodName := ⟨RX2, "put", "(LJournalDisk$Node;II)V"⟩
abbrev cX2_ownBlock : ByteArray := prog_4_method_17_code
def yX2_ownBlock : MethodName := ⟨RX2, "ownBlock", "(LJournalDisk$Node;I)I"⟩
abbrev cX2_freeBlock : ByteArray := prog_4_method_18_code
def yX2_freeBlock : MethodName := ⟨RX2, "freeBlock", "()I"⟩
abbrev cX2_wordOf : ByteArray := prog_4_method_19_code
def yX2_wordOf : MethodName := ⟨RX2, "wordOf", "(II)I"⟩
abbrev cX2_shiftOf : ByteArray := prog_4_method_20_code
def yX2_shiftOf : MethodName := ⟨RX2, "shiftOf", "(I)I"⟩
abbrev cX2_byteOf : ByteArray := prog_4_method_21_code
def yX2_byteOf : MethodName := ⟨RX2, "byteOf", "(LJournalDisk$Node;I)I"⟩
abbrev cX2_setByte : ByteArray := prog_4_method_22_code
def yX2_setByte : MethodName := ⟨RX2, "setByte", "(LJournalDisk$Node;II)V"⟩
abbrev cX2_writeRow : ByteArray := prog_4_method_23_code
def yX2_writeRow : MethodName := ⟨RX2, "writeRow", "(LJournalDisk$Node;III)V"⟩
abbrev cX2_resize : ByteArray := prog_4_method_24_code
def yX2_resize : MethodName := ⟨RX2, "resize", "(LJournalDisk$Node;I)V"⟩
abbrev cX2_shareAll : ByteArray := prog_4_method_25_code
def yX2_shareAll : MethodName := ⟨RX2, "shareAll", "(LJournalDisk$Node;LJournalDisk$Node;)V"⟩
abbrev cX2_sharedPlaces : ByteArray := prog_4_method_26_code
def yX2_sharedPlaces : MethodName := ⟨RX2, "sharedPlaces", "(LJournalDisk$Node;)I"⟩
abbrev cX2_isSame : ByteArray := prog_4_method_27_code
def yX2_isSame : MethodName := ⟨RX2, "isSame", "(LJournalDisk$Node;LJournalDisk$Node;)Z"⟩
abbrev cX2_blocksTaken : ByteArray := prog_4_method_28_code
def yX2_blocksTaken : MethodName := ⟨RX2, "blocksTaken", "()I"⟩
abbrev cX2_takenBy : ByteArray := prog_4_method_29_code
def yX2_takenBy : MethodName := ⟨RX2, "takenBy", "(I)I"⟩
abbrev cX2_greatest : ByteArray := prog_4_method_30_code
def yX2_greatest : MethodName := ⟨RX2, "greatest", "()I"⟩
abbrev cX2_blocksWithin : ByteArray := prog_4_method_31_code
def yX2_blocksWithin : MethodName := ⟨RX2, "blocksWithin", "(I)I"⟩
abbrev cX2_freedWithout : ByteArray := prog_4_method_32_code
def yX2_freedWithout : MethodName := ⟨RX2, "freedWithout", "(I)I"⟩
abbrev cX2_isIn : ByteArray := prog_4_method_33_code
def yX2_isIn : MethodName := ⟨RX2, "isIn", "(JI)Z"⟩
abbrev cX2_reach : ByteArray := prog_4_method_34_code
def yX2_reach : MethodName := ⟨RX2, "reach", "(I)J"⟩
abbrev cX2_insideOf : ByteArray := prog_4_method_35_code
def yX2_insideOf : MethodName := ⟨RX2, "insideOf", "(LJournalDisk$Node;)J"⟩
abbrev cX2_entriesOutside : ByteArray := prog_4_method_36_code
def yX2_entriesOutside : MethodName := ⟨RX2, "entriesOutside", "(LJournalDisk$Node;J)I"⟩
abbrev cX2_countHolders : ByteArray := prog_4_method_37_code
def yX2_countHolders : MethodName := ⟨RX2, "countHolders", "(J)V"⟩
abbrev cX2_isWithin : ByteArray := prog_4_method_38_code
def yX2_isWithin : MethodName := ⟨RX2, "isWithin", "(II)Z"⟩
abbrev cX2_depth : ByteArray := prog_4_method_39_code
def yX2_depth : MethodName := ⟨RX2, "depth", "(I)I"⟩
abbrev cX2_origin : ByteArray := prog_4_method_40_code
def yX2_origin : MethodName := ⟨RX2, "origin", "(II)I"⟩
abbrev cX2_found : ByteArray := prog_4_method_41_code
def yX2_found : MethodName := ⟨RX2, "found", "(II)I"⟩
def RX3 : String := "JournalDisk"
def TX3 : u_T := fun k => match k with
  | 0 => ("JournalDisk", "live", "LJournalDisk$Tree;", false)
  | 1 => ("JournalDisk", "draft", "LJournalDisk$Tree;", false)
  | 2 => ("JournalDisk", "lasting", "LJournalDisk$Tree;", true)
  | 3 => ("JournalDisk", "grips", "[LJournalDisk$Handle;", true)
  | 4 => ("JournalDisk", "waitingChanges", "I", false)
  | 5 => ("JournalDisk", "isPowerless", "Z", false)
  | 6 => ("JournalDisk", "timesUp", "I", false)
  | 7 => ("JournalDisk", "failWhen", "I", false)
  | _ => ("JournalDisk", "failBytes", "I", false)
def tyX3 : Nat → FieldType := fun k => match k with
  | 0 => .object "JournalDisk$Tree"
  | 1 => .object "JournalDisk$Tree"
  | 2 => .object "JournalDisk$Tree"
  | 3 => .array (.object "JournalDisk$Handle")
  | 4 => .int
  | 5 => .boolean
  | 6 => .int
  | 7 => .int
  | _ => .int
theorem nmX3 : ∀ a, a < 9 → ∀ b, b < 9 → a ≠ b → (TX3 a).2.1 ≠ (TX3 b).2.1 := by decide +kernel
theorem tyX3_ok : ∀ k, k < 9 → parseFieldDescriptor (TX3 k).2.2.1 = some (tyX3 k) := by decide +kernel
abbrev cX3_init : ByteArray := prog_1_method_1_code
def yX3_init : MethodName := ⟨RX3, "<init>", "()V"⟩
abbrev cX3_makeFile : ByteArray := prog_1_method_2_code
def yX3_makeFile : MethodName := ⟨RX3, "makeFile", "(II)I"⟩
abbrev cX3_makeFolder : ByteArray := prog_1_method_3_code
def yX3_makeFolder : MethodName := ⟨RX3, "makeFolder", "(II)I"⟩
abbrev cX3_makeLink : ByteArray := prog_1_method_4_code
def yX3_makeLink : MethodName := ⟨RX3, "makeLink", "(IIIII)I"⟩
abbrev cX3_cloneFile : ByteArray := prog_1_method_5_code
def yX3_cloneFile : MethodName := ⟨RX3, "cloneFile", "(III)I"⟩
abbrev cX3_addName : ByteArray := prog_1_method_6_code
def yX3_addName : MethodName := ⟨RX3, "addName", "(III)I"⟩
abbrev cX3_unlink : ByteArray := prog_1_method_7_code
def yX3_unlink : MethodName := ⟨RX3, "unlink", "(II)I"⟩
abbrev cX3_removeFolder : ByteArray := prog_1_method_8_code
def yX3_removeFolder : MethodName := ⟨RX3, "removeFolder", "(II)I"⟩
abbrev cX3_rename : ByteArray := prog_1_method_9_code
def yX3_rename : MethodName := ⟨RX3, "rename", "(IIII)I"⟩
abbrev cX3_exchange : ByteArray := prog_1_method_10_code
def yX3_exchange : MethodName := ⟨RX3, "exchange", "(IIII)I"⟩
abbrev cX3_write : ByteArray := prog_1_method_11_code
def yX3_write : MethodName := ⟨RX3, "write", "(III)I"⟩
abbrev cX3_truncate : ByteArray := prog_1_method_12_code
def yX3_truncate : MethodName := ⟨RX3, "truncate", "(II)I"⟩
abbrev cX3_punch : ByteArray := prog_1_method_13_code
def yX3_punch : MethodName := ⟨RX3, "punch", "(II)I"⟩
abbrev cX3_share : ByteArray := prog_1_method_14_code
def yX3_share : MethodName := ⟨RX3, "share", "(IIII)I"⟩
abbrev cX3_setOwner : ByteArray := prog_1_method_15_code
def yX3_setOwner : MethodName := ⟨RX3, "setOwner", "(II)I"⟩
abbrev cX3_setQuota : ByteArray := prog_1_method_16_code
def yX3_setQuota : MethodName := ⟨RX3, "setQuota", "(II)I"⟩
abbrev cX3_open : ByteArray := prog_1_method_17_code
def yX3_open : MethodName := ⟨RX3, "open", "(I)I"⟩
abbrev cX3_close : ByteArray := prog_1_method_18_code
def yX3_close : MethodName := ⟨RX3, "close", "(I)I"⟩
abbrev cX3_seek : ByteArray := prog_1_method_19_code
def yX3_seek : MethodName := ⟨RX3, "seek", "(II)I"⟩
abbrev cX3_read : ByteArray := prog_1_method_20_code
def yX3_read : MethodName := ⟨RX3, "read", "(II)I"⟩
abbrev cX3_lock : ByteArray := prog_1_method_21_code
def yX3_lock : MethodName := ⟨RX3, "lock", "(IIIZ)Z"⟩
abbrev cX3_unlock : ByteArray := prog_1_method_22_code
def yX3_unlock : MethodName := ⟨RX3, "unlock", "(III)I"⟩
abbrev cX3_whoHinders : ByteArray := prog_1_method_23_code
def yX3_whoHinders : MethodName := ⟨RX3, "whoHinders", "(IIIZ)I"⟩
abbrev cX3_lockRows : ByteArray := prog_1_method_24_code
def yX3_lockRows : MethodName := ⟨RX3, "lockRows", "(I)I"⟩
abbrev cX3_lockAt : ByteArray := prog_1_method_25_code
def yX3_lockAt : MethodName := ⟨RX3, "lockAt", "(II)I"⟩
abbrev cX3_nodeOf : ByteArray := prog_1_method_26_code
def yX3_nodeOf : MethodName := ⟨RX3, "nodeOf", "(I)I"⟩
abbrev cX3_positionOf : ByteArray := prog_1_method_27_code
def yX3_positionOf : MethodName := ⟨RX3, "positionOf", "(I)I"⟩
abbrev cX3_handles : ByteArray := prog_1_method_28_code
def yX3_handles : MethodName := ⟨RX3, "handles", "()I"⟩
abbrev cX3_sync : ByteArray := prog_1_method_29_code
def yX3_sync : MethodName := ⟨RX3, "sync", "()Z"⟩
abbrev cX3_flush : ByteArray := prog_1_method_30_code
def yX3_flush : MethodName := ⟨RX3, "flush", "()Z"⟩
abbrev cX3_writeBack : ByteArray := prog_1_method_31_code
def yX3_writeBack : MethodName := ⟨RX3, "writeBack", "(II)V"⟩
abbrev cX3_cut : ByteArray := prog_1_method_32_code
def yX3_cut : MethodName := ⟨RX3, "cut", "()V"⟩
abbrev cX3_fail : ByteArray := prog_1_method_33_code
def yX3_fail : MethodName := ⟨RX3, "fail", "(III)V"⟩
abbrev cX3_mount : ByteArray := prog_1_method_34_code
def yX3_mount : MethodName := ⟨RX3, "mount", "()I"⟩
abbrev cX3_isDown : ByteArray := prog_1_method_35_code
def yX3_isDown : MethodName := ⟨RX3, "isDown", "()Z"⟩
abbrev cX3_mounts : ByteArray := prog_1_method_36_code
def yX3_mounts : MethodName := ⟨RX3, "mounts", "()I"⟩
abbrev cX3_waiting : ByteArray := prog_1_method_37_code
def yX3_waiting : MethodName := ⟨RX3, "waiting", "()I"⟩
abbrev cX3_changes : ByteArray := prog_1_method_38_code
def yX3_changes : MethodName := ⟨RX3, "changes", "()I"⟩
abbrev cX3_nodes : ByteArray := prog_1_method_39_code
def yX3_nodes : MethodName := ⟨RX3, "nodes", "()I"⟩
abbrev cX3_typeOf : ByteArray := prog_1_method_40_code
def yX3_typeOf : MethodName := ⟨RX3, "typeOf", "(I)I"⟩
abbrev cX3_linksOf : ByteArray := prog_1_method_41_code
def yX3_linksOf : MethodName := ⟨RX3, "linksOf", "(I)I"⟩
abbrev cX3_ownerOf : ByteArray := prog_1_method_42_code
def yX3_ownerOf : MethodName := ⟨RX3, "ownerOf", "(I)I"⟩
abbrev cX3_sizeOf : ByteArray := prog_1_method_43_code
def yX3_sizeOf : MethodName := ⟨RX3, "sizeOf", "(I)I"⟩
abbrev cX3_blocksOf : ByteArray := prog_1_method_44_code
def yX3_blocksOf : MethodName := ⟨RX3, "blocksOf", "(I)I"⟩
abbrev cX3_sharedOf : ByteArray := prog_1_method_45_code
def yX3_sharedOf : MethodName := ⟨RX3, "sharedOf", "(I)I"⟩
abbrev cX3_byteAt : ByteArray := prog_1_method_46_code
def yX3_byteAt : MethodName := ⟨RX3, "byteAt", "(II)I"⟩
abbrev cX3_isHole : ByteArray := prog_1_method_47_code
def yX3_isHole : MethodName := ⟨RX3, "isHole", "(II)Z"⟩
abbrev cX3_nextData : ByteArray := prog_1_method_48_code
def yX3_nextData : MethodName := ⟨RX3, "nextData", "(II)I"⟩
abbrev cX3_nextHole : ByteArray := prog_1_method_49_code
def yX3_nextHole : MethodName := ⟨RX3, "nextHole", "(II)I"⟩
abbrev cX3_sameBytes : ByteArray := prog_1_method_50_code
def yX3_sameBytes : MethodName := ⟨RX3, "sameBytes", "(II)Z"⟩
abbrev cX3_lookup : ByteArray := prog_1_method_51_code
def yX3_lookup : MethodName := ⟨RX3, "lookup", "(II)I"⟩
abbrev cX3_follow : ByteArray := prog_1_method_52_code
def yX3_follow : MethodName := ⟨RX3, "follow", "(II)I"⟩
abbrev cX3_nameAt : ByteArray := prog_1_method_53_code
def yX3_nameAt : MethodName := ⟨RX3, "nameAt", "(II)I"⟩
abbrev cX3_parentOf : ByteArray := prog_1_method_54_code
def yX3_parentOf : MethodName := ⟨RX3, "parentOf", "(I)I"⟩
abbrev cX3_depthOf : ByteArray := prog_1_method_55_code
def yX3_depthOf : MethodName := ⟨RX3, "depthOf", "(I)I"⟩
abbrev cX3_isOrphan : ByteArray := prog_1_method_56_code
def yX3_isOrphan : MethodName := ⟨RX3, "isOrphan", "(I)Z"⟩
abbrev cX3_blocksUnder : ByteArray := prog_1_method_57_code
def yX3_blocksUnder : MethodName := ⟨RX3, "blocksUnder", "(I)I"⟩
abbrev cX3_wouldFree : ByteArray := prog_1_method_58_code
def yX3_wouldFree : MethodName := ⟨RX3, "wouldFree", "(I)I"⟩
abbrev cX3_used : ByteArray := prog_1_method_59_code
def yX3_used : MethodName := ⟨RX3, "used", "()I"⟩
abbrev cX3_usedBy : ByteArray := prog_1_method_60_code
def yX3_usedBy : MethodName := ⟨RX3, "usedBy", "(I)I"⟩
abbrev cX3_quotaOf : ByteArray := prog_1_method_61_code
def yX3_quotaOf : MethodName := ⟨RX3, "quotaOf", "(I)I"⟩
abbrev cX3_greatestFile : ByteArray := prog_1_method_62_code
def yX3_greatestFile : MethodName := ⟨RX3, "greatestFile", "()I"⟩
abbrev cX3_meanSize : ByteArray := prog_1_method_63_code
def yX3_meanSize : MethodName := ⟨RX3, "meanSize", "()D"⟩
abbrev cX3_flaws : ByteArray := prog_1_method_64_code
def yX3_flaws : MethodName := ⟨RX3, "flaws", "()I"⟩
abbrev cX3_digest : ByteArray := prog_1_method_65_code
def yX3_digest : MethodName := ⟨RX3, "digest", "()J"⟩
abbrev cX3_digestNode : ByteArray := prog_1_method_66_code
def yX3_digestNode : MethodName := ⟨RX3, "digestNode", "(JI)J"⟩
abbrev cX3_digestContent : ByteArray := prog_1_method_67_code
def yX3_digestContent : MethodName := ⟨RX3, "digestContent", "(JI)J"⟩
abbrev cX3_digestHandle : ByteArray := prog_1_method_68_code
def yX3_digestHandle : MethodName := ⟨RX3, "digestHandle", "(JI)J"⟩
abbrev cX3_needPower : ByteArray := prog_1_method_69_code
def yX3_needPower : MethodName := ⟨RX3, "needPower", "()V"⟩
abbrev cX3_needNode : ByteArray := prog_1_method_70_code
def yX3_needNode : MethodName := ⟨RX3, "needNode", "(I)V"⟩
abbrev cX3_needLive : ByteArray := prog_1_method_71_code
def yX3_needLive : MethodName := ⟨RX3, "needLive", "(I)LJournalDisk$Node;"⟩
abbrev cX3_needOpen : ByteArray := prog_1_method_72_code
def yX3_needOpen : MethodName := ⟨RX3, "needOpen", "(I)LJournalDisk$Handle;"⟩
abbrev cX3_needRange : ByteArray := prog_1_method_73_code
def yX3_needRange : MethodName := ⟨RX3, "needRange", "(III)V"⟩
abbrev cX3_needBytes : ByteArray := prog_1_method_74_code
def yX3_needBytes : MethodName := ⟨RX3, "needBytes", "(II)V"⟩
abbrev cX3_needEntry : ByteArray := prog_1_method_75_code
def yX3_needEntry : MethodName := ⟨RX3, "needEntry", "(II)V"⟩
abbrev cX3_needTwoEntries : ByteArray := prog_1_method_76_code
def yX3_needTwoEntries : MethodName := ⟨RX3, "needTwoEntries", "(IIII)V"⟩
abbrev cX3_hindranceToMake : ByteArray := prog_1_method_77_code
def yX3_hindranceToMake : MethodName := ⟨RX3, "hindranceToMake", "(II)I"⟩
abbrev cX3_hindranceToMove : ByteArray := prog_1_method_78_code
def yX3_hindranceToMove : MethodName := ⟨RX3, "hindranceToMove", "(IIII)I"⟩
abbrev cX3_hindranceOfRoom : ByteArray := prog_1_method_79_code
def yX3_hindranceOfRoom : MethodName := ⟨RX3, "hindranceOfRoom", "()I"⟩
abbrev cX3_firstAgainst : ByteArray := prog_1_method_80_code
def yX3_firstAgainst : MethodName := ⟨RX3, "firstAgainst", "(IIIZ)I"⟩
abbrev cX3_startDraft : ByteArray := prog_1_method_81_code
def yX3_startDraft : MethodName := ⟨RX3, "startDraft", "()V"⟩
abbrev cX3_makeEmpty : ByteArray := prog_1_method_82_code
def yX3_makeEmpty : MethodName := ⟨RX3, "makeEmpty", "(III)I"⟩
abbrev cX3_takeName : ByteArray := prog_1_method_83_code
def yX3_takeName : MethodName := ⟨RX3, "takeName", "(II)V"⟩
abbrev cX3_isHeld : ByteArray := prog_1_method_84_code
def yX3_isHeld : MethodName := ⟨RX3, "isHeld", "(I)Z"⟩
abbrev cX3_settle : ByteArray := prog_1_method_85_code
def yX3_settle : MethodName := ⟨RX3, "settle", "(I)I"⟩
abbrev cX3_commit : ByteArray := prog_1_method_86_code
def yX3_commit : MethodName := ⟨RX3, "commit", "()Z"⟩
abbrev cX3_fall : ByteArray := prog_1_method_87_code
def yX3_fall : MethodName := ⟨RX3, "fall", "()V"⟩
def RJ9 : String := "java/lang/Math"
def TJ9 : u_T := fun k => match k with
  | _ => ("", "", "", false)
def tyJ9 : Nat → FieldType := fun k => match k with
  | _ => .int
theorem nmJ9 : ∀ a, a < 0 → ∀ b, b < 0 → a ≠ b → (TJ9 a).2.1 ≠ (TJ9 b).2.1 := by decide +kernel
theorem tyJ9_ok : ∀ k, k < 0 → parseFieldDescriptor (TJ9 k).2.2.1 = some (tyJ9 k) := by decide +kernel
abbrev cJ9_max_7cf53 : ByteArray := prog_11_method_65_code
def yJ9_max_7cf53 : MethodName := ⟨RJ9, "max", "(II)I"⟩
abbrev cJ9_min_7cf53 : ByteArray := prog_11_method_69_code
def yJ9_min_7cf53 : MethodName := ⟨RJ9, "min", "(II)I"⟩
theorem dX0_init_0 : decode cX0_init 0 = .ok (.aload_n 0, 1) := by decide +kernel
theorem dX0_init_1 : decode cX0_init 1 = .ok (.invokespecial 3, 3) := by decide +kernel
theorem dX0_init_4 : decode cX0_init 4 = .ok (.aload_n 0, 1) := by decide +kernel
theorem dX0_init_5 : decode cX0_init 5 = .ok (.iconst 0, 1) := by decide +kernel
theorem dX0_init_6 : decode cX0_init 6 = .ok (.putfield 9, 3) := by decide +kernel
theorem dX0_init_9 : decode cX0_init 9 = .ok (.aload_n 0, 1) := by decide +kernel
theorem dX0_init_10 : decode cX0_init 10 = .ok (.iconst 0, 1) := by decide +kernel
theorem dX0_init_11 : decode cX0_init 11 = .ok (.putfield 15, 3) := by decide +kernel
theorem dX0_init_14 : decode cX0_init 14 = .ok (.aload_n 0, 1) := by decide +kernel
theorem dX0_init_15 : decode cX0_init 15 = .ok (.iconst 0, 1) := by decide +kernel
theorem dX0_init_16 : decode cX0_init 16 = .ok (.putfield 19, 3) := by decide +kernel
theorem dX0_init_19 : decode cX0_init 19 = .ok (.aload_n 0, 1) := by decide +kernel
theorem dX0_init_20 : decode cX0_init 20 = .ok (.sipush 320, 3) := by decide +kernel
theorem dX0_init_23 : decode cX0_init 23 = .ok (.newarray .int, 2) := by decide +kernel
theorem dX0_init_25 : decode cX0_init 25 = .ok (.putfield 22, 3) := by decide +kernel
theorem dX0_init_28 : decode cX0_init 28 = .ok (.return_, 1) := by decide +kernel
theorem dX0_take_0 : decode cX0_take 0 = .ok (.aload_n 0, 1) := by decide +kernel
theorem dX0_take_1 : decode cX0_take 1 = .ok (.iconst 1, 1) := by decide +kernel
theorem dX0_take_2 : decode cX0_take 2 = .ok (.putfield 9, 3) := by decide +kernel
theorem dX0_take_5 : decode cX0_take 5 = .ok (.aload_n 0, 1) := by decide +kernel
theorem dX0_take_6 : decode cX0_take 6 = .ok (.iload_n 1, 1) := by decide +kernel
theorem dX0_take_7 : decode cX0_take 7 = .ok (.putfield 15, 3) := by decide +kernel
theorem dX0_take_10 : decode cX0_take 10 = .ok (.aload_n 0, 1) := by decide +kernel
theorem dX0_take_11 : decode cX0_take 11 = .ok (.iconst 0, 1) := by decide +kernel
theorem dX0_take_12 : decode cX0_take 12 = .ok (.putfield 19, 3) := by decide +kernel
theorem dX0_take_15 : decode cX0_take 15 = .ok (.return_, 1) := by decide +kernel
theorem dX0_leave_0 : decode cX0_leave 0 = .ok (.aload_n 0, 1) := by decide +kernel
theorem dX0_leave_1 : decode cX0_leave 1 = .ok (.iconst 0, 1) := by decide +kernel
theorem dX0_leave_2 : decode cX0_leave 2 = .ok (.putfield 9, 3) := by decide +kernel
theorem dX0_leave_5 : decode cX0_leave 5 = .ok (.aload_n 0, 1) := by decide +kernel
theorem dX0_leave_6 : decode cX0_leave 6 = .ok (.iconst 0, 1) := by decide +kernel
theorem dX0_leave_7 : decode cX0_leave 7 = .ok (.sipush 320, 3) := by decide +kernel
theorem dX0_leave_10 : decode cX0_leave 10 = .ok (.iconst 0, 1) := by decide +kernel
theorem dX0_leave_11 : decode cX0_leave 11 = .ok (.invokevirtual 26, 3) := by decide +kernel
theorem dX0_leave_14 : decode cX0_leave 14 = .ok (.pop, 1) := by decide +kernel
theorem dX0_leave_15 : decode cX0_leave 15 = .ok (.return_, 1) := by decide +kernel
theorem dX0_isOn_0 : decode cX0_isOn 0 = .ok (.aload_n 0, 1) := by decide +kernel
theorem dX0_isOn_1 : decode cX0_isOn 1 = .ok (.getfield 9, 3) := by decide +kernel
theorem dX0_isOn_4 : decode cX0_isOn 4 = .ok (.ifCond .eq 15, 3) := by decide +kernel
theorem dX0_isOn_7 : decode cX0_isOn 7 = .ok (.aload_n 0, 1) := by decide +kernel
theorem dX0_isOn_8 : decode cX0_isOn 8 = .ok (.getfield 15, 3) := by decide +kernel
theorem dX0_isOn_11 : decode cX0_isOn 11 = .ok (.iload_n 1, 1) := by decide +kernel
theorem dX0_isOn_12 : decode cX0_isOn 12 = .ok (.if_icmp .ne 7, 3) := by decide +kernel
theorem dX0_isOn_15 : decode cX0_isOn 15 = .ok (.iconst 1, 1) := by decide +kernel
theorem dX0_isOn_16 : decode cX0_isOn 16 = .ok (.goto 4, 3) := by decide +kernel
theorem dX0_isOn_19 : decode cX0_isOn 19 = .ok (.iconst 0, 1) := by decide +kernel
theorem dX0_isOn_20 : decode cX0_isOn 20 = .ok (.ireturn, 1) := by decide +kernel
theorem dX0_lockOn_0 : decode cX0_lockOn 0 = .ok (.iload_n 1, 1) := by decide +kernel
theorem dX0_lockOn_1 : decode cX0_lockOn 1 = .ok (.ifCond .lt 21, 3) := by decide +kernel
theorem dX0_lockOn_4 : decode cX0_lockOn 4 = .ok (.iload_n 1, 1) := by decide +kernel
theorem dX0_lockOn_5 : decode cX0_lockOn 5 = .ok (.aload_n 0, 1) := by decide +kernel
theorem dX0_lockOn_6 : decode cX0_lockOn 6 = .ok (.getfield 22, 3) := by decide +kernel
theorem dX0_lockOn_9 : decode cX0_lockOn 9 = .ok (.arraylength, 1) := by decide +kernel
theorem dX0_lockOn_10 : decode cX0_lockOn 10 = .ok (.if_icmp .ge 12, 3) := by decide +kernel
theorem dX0_lockOn_13 : decode cX0_lockOn 13 = .ok (.aload_n 0, 1) := by decide +kernel
theorem dX0_lockOn_14 : decode cX0_lockOn 14 = .ok (.getfield 22, 3) := by decide +kernel
theorem dX0_lockOn_17 : decode cX0_lockOn 17 = .ok (.iload_n 1, 1) := by decide +kernel
theorem dX0_lockOn_18 : decode cX0_lockOn 18 = .ok (.iaload, 1) := by decide +kernel
theorem dX0_lockOn_19 : decode cX0_lockOn 19 = .ok (.goto 4, 3) := by decide +kernel
theorem dX0_lockOn_22 : decode cX0_lockOn 22 = .ok (.iconst 0, 1) := by decide +kernel
theorem dX0_lockOn_23 : decode cX0_lockOn 23 = .ok (.ireturn, 1) := by decide +kernel
theorem dX0_setLocks_0 : decode cX0_setLocks 0 = .ok (.iconst 0, 1) := by decide +kernel
theorem dX0_setLocks_1 : decode cX0_setLocks 1 = .ok (.istore 4, 2) := by decide +kernel
theorem dX0_setLocks_3 : decode cX0_setLocks 3 = .ok (.iload_n 1, 1) := by decide +kernel
theorem dX0_setLocks_4 : decode cX0_setLocks 4 = .ok (.iconst 0, 1) := by decide +kernel
theorem dX0_setLocks_5 : decode cX0_setLocks 5 = .ok (.invokestatic 30, 3) := by decide +kernel
theorem dX0_setLocks_8 : decode cX0_setLocks 8 = .ok (.istore 5, 2) := by decide +kernel
theorem dX0_setLocks_10 : decode cX0_setLocks 10 = .ok (.iload 5, 2) := by decide +kernel
theorem dX0_setLocks_12 : decode cX0_setLocks 12 = .ok (.iload_n 1, 1) := by decide +kernel
theorem dX0_setLocks_13 : decode cX0_setLocks 13 = .ok (.iload_n 2, 1) := by decide +kernel
theorem dX0_setLocks_14 : decode cX0_setLocks 14 = .ok (.iadd, 1) := by decide +kernel
theorem dX0_setLocks_15 : decode cX0_setLocks 15 = .ok (.if_icmp .ge 40, 3) := by decide +kernel
theorem dX0_setLocks_18 : decode cX0_setLocks 18 = .ok (.iload 5, 2) := by decide +kernel
theorem dX0_setLocks_20 : decode cX0_setLocks 20 = .ok (.aload_n 0, 1) := by decide +kernel
theorem dX0_setLocks_21 : decode cX0_setLocks 21 = .ok (.getfield 22, 3) := by decide +kernel
theorem dX0_setLocks_24 : decode cX0_setLocks 24 = .ok (.arraylength, 1) := by decide +kernel
theorem dX0_setLocks_25 : decode cX0_setLocks 25 = .ok (.if_icmp .ge 30, 3) := by decide +kernel
theorem dX0_setLocks_28 : decode cX0_setLocks 28 = .ok (.aload_n 0, 1) := by decide +kernel
theorem dX0_setLocks_29 : decode cX0_setLocks 29 = .ok (.getfield 22, 3) := by decide +kernel
theorem dX0_setLocks_32 : decode cX0_setLocks 32 = .ok (.iload 5, 2) := by decide +kernel
theorem dX0_setLocks_34 : decode cX0_setLocks 34 = .ok (.iaload, 1) := by decide +kernel
theorem dX0_setLocks_35 : decode cX0_setLocks 35 = .ok (.ifCond .eq 6, 3) := by decide +kernel
theorem dX0_setLocks_38 : decode cX0_setLocks 38 = .ok (.iinc 4 1, 3) := by decide +kernel
theorem dX0_setLocks_41 : decode cX0_setLocks 41 = .ok (.aload_n 0, 1) := by decide +kernel
theorem dX0_setLocks_42 : decode cX0_setLocks 42 = .ok (.getfield 22, 3) := by decide +kernel
theorem dX0_setLocks_45 : decode cX0_setLocks 45 = .ok (.iload 5, 2) := by decide +kernel
theorem dX0_setLocks_47 : decode cX0_setLocks 47 = .ok (.iload_n 3, 1) := by decide +kernel
theorem dX0_setLocks_48 : decode cX0_setLocks 48 = .ok (.iastore, 1) := by decide +kernel
theorem dX0_setLocks_49 : decode cX0_setLocks 49 = .ok (.iinc 5 1, 3) := by decide +kernel
theorem dX0_setLocks_52 : decode cX0_setLocks 52 = .ok (.goto (-42), 3) := by decide +kernel
theorem dX0_setLocks_55 : decode cX0_setLocks 55 = .ok (.iload 4, 2) := by decide +kernel
theorem dX0_setLocks_57 : decode cX0_setLocks 57 = .ok (.ireturn, 1) := by decide +kernel
theorem dX0_isAgainst_0 : decode cX0_isAgainst 0 = .ok (.iload_n 1, 1) := by decide +kernel
theorem dX0_isAgainst_1 : decode cX0_isAgainst 1 = .ok (.istore 4, 2) := by decide +kernel
theorem dX0_isAgainst_3 : decode cX0_isAgainst 3 = .ok (.iload 4, 2) := by decide +kernel
theorem dX0_isAgainst_5 : decode cX0_isAgainst 5 = .ok (.iload_n 1, 1) := by decide +kernel
theorem dX0_isAgainst_6 : decode cX0_isAgainst 6 = .ok (.iload_n 2, 1) := by decide +kernel
theorem dX0_isAgainst_7 : decode cX0_isAgainst 7 = .ok (.iadd, 1) := by decide +kernel
theorem dX0_isAgainst_8 : decode cX0_isAgainst 8 = .ok (.if_icmp .ge 34, 3) := by decide +kernel
theorem dX0_isAgainst_11 : decode cX0_isAgainst 11 = .ok (.aload_n 0, 1) := by decide +kernel
theorem dX0_isAgainst_12 : decode cX0_isAgainst 12 = .ok (.iload 4, 2) := by decide +kernel
theorem dX0_isAgainst_14 : decode cX0_isAgainst 14 = .ok (.invokevirtual 36, 3) := by decide +kernel
theorem dX0_isAgainst_17 : decode cX0_isAgainst 17 = .ok (.istore 5, 2) := by decide +kernel
theorem dX0_isAgainst_19 : decode cX0_isAgainst 19 = .ok (.iload 5, 2) := by decide +kernel
theorem dX0_isAgainst_21 : decode cX0_isAgainst 21 = .ok (.iconst 2, 1) := by decide +kernel
theorem dX0_isAgainst_22 : decode cX0_isAgainst 22 = .ok (.if_icmp .eq 12, 3) := by decide +kernel
theorem dX0_isAgainst_25 : decode cX0_isAgainst 25 = .ok (.iload_n 3, 1) := by decide +kernel
theorem dX0_isAgainst_26 : decode cX0_isAgainst 26 = .ok (.ifCond .eq 10, 3) := by decide +kernel
theorem dX0_isAgainst_29 : decode cX0_isAgainst 29 = .ok (.iload 5, 2) := by decide +kernel
theorem dX0_isAgainst_31 : decode cX0_isAgainst 31 = .ok (.ifCond .eq 5, 3) := by decide +kernel
theorem dX0_isAgainst_34 : decode cX0_isAgainst 34 = .ok (.iconst 1, 1) := by decide +kernel
theorem dX0_isAgainst_35 : decode cX0_isAgainst 35 = .ok (.ireturn, 1) := by decide +kernel
theorem dX0_isAgainst_36 : decode cX0_isAgainst 36 = .ok (.iinc 4 1, 3) := by decide +kernel
theorem dX0_isAgainst_39 : decode cX0_isAgainst 39 = .ok (.goto (-36), 3) := by decide +kernel
theorem dX0_isAgainst_42 : decode cX0_isAgainst 42 = .ok (.iconst 0, 1) := by decide +kernel
theorem dX0_isAgainst_43 : decode cX0_isAgainst 43 = .ok (.ireturn, 1) := by decide +kernel
theorem dX0_rows_0 : decode cX0_rows 0 = .ok (.iconst 0, 1) := by decide +kernel
theorem dX0_rows_1 : decode cX0_rows 1 = .ok (.istore_n 1, 1) := by decide +kernel
theorem dX0_rows_2 : decode cX0_rows 2 = .ok (.iconst 0, 1) := by decide +kernel
theorem dX0_rows_3 : decode cX0_rows 3 = .ok (.istore_n 2, 1) := by decide +kernel
theorem dX0_rows_4 : decode cX0_rows 4 = .ok (.iconst 0, 1) := by decide +kernel
theorem dX0_rows_5 : decode cX0_rows 5 = .ok (.istore_n 3, 1) := by decide +kernel
theorem dX0_rows_6 : decode cX0_rows 6 = .ok (.iload_n 3, 1) := by decide +kernel
theorem dX0_rows_7 : decode cX0_rows 7 = .ok (.aload_n 0, 1) := by decide +kernel
theorem dX0_rows_8 : decode cX0_rows 8 = .ok (.getfield 22, 3) := by decide +kernel
theorem dX0_rows_11 : decode cX0_rows 11 = .ok (.arraylength, 1) := by decide +kernel
theorem dX0_rows_12 : decode cX0_rows 12 = .ok (.if_icmp .ge 38, 3) := by decide +kernel
theorem dX0_rows_15 : decode cX0_rows 15 = .ok (.aload_n 0, 1) := by decide +kernel
theorem dX0_rows_16 : decode cX0_rows 16 = .ok (.getfield 22, 3) := by decide +kernel
theorem dX0_rows_19 : decode cX0_rows 19 = .ok (.iload_n 3, 1) := by decide +kernel
theorem dX0_rows_20 : decode cX0_rows 20 = .ok (.iaload, 1) := by decide +kernel
theorem dX0_rows_21 : decode cX0_rows 21 = .ok (.ifCond .eq 16, 3) := by decide +kernel
theorem dX0_rows_24 : decode cX0_rows 24 = .ok (.aload_n 0, 1) := by decide +kernel
theorem dX0_rows_25 : decode cX0_rows 25 = .ok (.getfield 22, 3) := by decide +kernel
theorem dX0_rows_28 : decode cX0_rows 28 = .ok (.iload_n 3, 1) := by decide +kernel
theorem dX0_rows_29 : decode cX0_rows 29 = .ok (.iaload, 1) := by decide +kernel
theorem dX0_rows_30 : decode cX0_rows 30 = .ok (.iload_n 2, 1) := by decide +kernel
theorem dX0_rows_31 : decode cX0_rows 31 = .ok (.if_icmp .eq 6, 3) := by decide +kernel
theorem dX0_rows_34 : decode cX0_rows 34 = .ok (.iinc 1 1, 3) := by decide +kernel
theorem dX0_rows_37 : decode cX0_rows 37 = .ok (.aload_n 0, 1) := by decide +kernel
theorem dX0_rows_38 : decode cX0_rows 38 = .ok (.getfield 22, 3) := by decide +kernel
theorem dX0_rows_41 : decode cX0_rows 41 = .ok (.iload_n 3, 1) := by decide +kernel
theorem dX0_rows_42 : decode cX0_rows 42 = .ok (.iaload, 1) := by decide +kernel
theorem dX0_rows_43 : decode cX0_rows 43 = .ok (.istore_n 2, 1) := by decide +kernel
theorem dX0_rows_44 : decode cX0_rows 44 = .ok (.iinc 3 1, 3) := by decide +kernel
theorem dX0_rows_47 : decode cX0_rows 47 = .ok (.goto (-41), 3) := by decide +kernel
theorem dX0_rows_50 : decode cX0_rows 50 = .ok (.iload_n 1, 1) := by decide +kernel
theorem dX0_rows_51 : decode cX0_rows 51 = .ok (.ireturn, 1) := by decide +kernel
theorem dX1_init_0 : decode cX1_init 0 = .ok (.aload_n 0, 1) := by decide +kernel
theorem dX1_init_1 : decode cX1_init 1 = .ok (.invokespecial 3, 3) := by decide +kernel
theorem dX1_init_4 : decode cX1_init 4 = .ok (.aload_n 0, 1) := by decide +kernel
theorem dX1_init_5 : decode cX1_init 5 = .ok (.iconst 0, 1) := by decide +kernel
theorem dX1_init_6 : decode cX1_init 6 = .ok (.putfield 9, 3) := by decide +kernel
theorem dX1_init_9 : decode cX1_init 9 = .ok (.aload_n 0, 1) := by decide +kernel
theorem dX1_init_10 : decode cX1_init 10 = .ok (.iconst 0, 1) := by decide +kernel
theorem dX1_init_11 : decode cX1_init 11 = .ok (.putfield 15, 3) := by decide +kernel
theorem dX1_init_14 : decode cX1_init 14 = .ok (.aload_n 0, 1) := by decide +kernel
theorem dX1_init_15 : decode cX1_init 15 = .ok (.iconst 0, 1) := by decide +kernel
theorem dX1_init_16 : decode cX1_init 16 = .ok (.putfield 18, 3) := by decide +kernel
theorem dX1_init_19 : decode cX1_init 19 = .ok (.aload_n 0, 1) := by decide +kernel
theorem dX1_init_20 : decode cX1_init 20 = .ok (.iconst 0, 1) := by decide +kernel
theorem dX1_init_21 : decode cX1_init 21 = .ok (.putfield 21, 3) := by decide +kernel
theorem dX1_init_24 : decode cX1_init 24 = .ok (.aload_n 0, 1) := by decide +kernel
theorem dX1_init_25 : decode cX1_init 25 = .ok (.iconst 0, 1) := by decide +kernel
theorem dX1_init_26 : decode cX1_init 26 = .ok (.putfield 24, 3) := by decide +kernel
theorem dX1_init_29 : decode cX1_init 29 = .ok (.aload_n 0, 1) := by decide +kernel
theorem dX1_init_30 : decode cX1_init 30 = .ok (.iconst 0, 1) := by decide +kernel
theorem dX1_init_31 : decode cX1_init 31 = .ok (.putfield 27, 3) := by decide +kernel
theorem dX1_init_34 : decode cX1_init 34 = .ok (.aload_n 0, 1) := by decide +kernel
theorem dX1_init_35 : decode cX1_init 35 = .ok (.iconst 0, 1) := by decide +kernel
theorem dX1_init_36 : decode cX1_init 36 = .ok (.putfield 30, 3) := by decide +kernel
theorem dX1_init_39 : decode cX1_init 39 = .ok (.aload_n 0, 1) := by decide +kernel
theorem dX1_init_40 : decode cX1_init 40 = .ok (.iconst 0, 1) := by decide +kernel
theorem dX1_init_41 : decode cX1_init 41 = .ok (.putfield 33, 3) := by decide +kernel
theorem dX1_init_44 : decode cX1_init 44 = .ok (.aload_n 0, 1) := by decide +kernel
theorem dX1_init_45 : decode cX1_init 45 = .ok (.iconst 0, 1) := by decide +kernel
theorem dX1_init_46 : decode cX1_init 46 = .ok (.putfield 36, 3) := by decide +kernel
theorem dX1_init_49 : decode cX1_init 49 = .ok (.aload_n 0, 1) := by decide +kernel
theorem dX1_init_50 : decode cX1_init 50 = .ok (.bipush 12, 2) := by decide +kernel
theorem dX1_init_52 : decode cX1_init 52 = .ok (.newarray .int, 2) := by decide +kernel
theorem dX1_init_54 : decode cX1_init 54 = .ok (.putfield 39, 3) := by decide +kernel
theorem dX1_init_57 : decode cX1_init 57 = .ok (.aload_n 0, 1) := by decide +kernel
theorem dX1_init_58 : decode cX1_init 58 = .ok (.bipush 12, 2) := by decide +kernel
theorem dX1_init_60 : decode cX1_init 60 = .ok (.newarray .int, 2) := by decide +kernel
theorem dX1_init_62 : decode cX1_init 62 = .ok (.putfield 43, 3) := by decide +kernel
theorem dX1_init_65 : decode cX1_init 65 = .ok (.aload_n 0, 1) := by decide +kernel
theorem dX1_init_66 : decode cX1_init 66 = .ok (.bipush 20, 2) := by decide +kernel
theorem dX1_init_68 : decode cX1_init 68 = .ok (.newarray .int, 2) := by decide +kernel
theorem dX1_init_70 : decode cX1_init 70 = .ok (.putfield 46, 3) := by decide +kernel
theorem dX1_init_73 : decode cX1_init 73 = .ok (.return_, 1) := by decide +kernel
theorem dX1_become_0 : decode cX1_become 0 = .ok (.aload_n 0, 1) := by decide +kernel
theorem dX1_become_1 : decode cX1_become 1 = .ok (.iload_n 1, 1) := by decide +kernel
theorem dX1_become_2 : decode cX1_become 2 = .ok (.putfield 9, 3) := by decide +kernel
theorem dX1_become_5 : decode cX1_become 5 = .ok (.aload_n 0, 1) := by decide +kernel
theorem dX1_become_6 : decode cX1_become 6 = .ok (.iload_n 2, 1) := by decide +kernel
theorem dX1_become_7 : decode cX1_become 7 = .ok (.putfield 15, 3) := by decide +kernel
theorem dX1_become_10 : decode cX1_become 10 = .ok (.aload_n 0, 1) := by decide +kernel
theorem dX1_become_11 : decode cX1_become 11 = .ok (.iconst 0, 1) := by decide +kernel
theorem dX1_become_12 : decode cX1_become 12 = .ok (.putfield 18, 3) := by decide +kernel
theorem dX1_become_15 : decode cX1_become 15 = .ok (.aload_n 0, 1) := by decide +kernel
theorem dX1_become_16 : decode cX1_become 16 = .ok (.iconst 0, 1) := by decide +kernel
theorem dX1_become_17 : decode cX1_become 17 = .ok (.putfield 21, 3) := by decide +kernel
theorem dX1_become_20 : decode cX1_become 20 = .ok (.aload_n 0, 1) := by decide +kernel
theorem dX1_become_21 : decode cX1_become 21 = .ok (.iconst 0, 1) := by decide +kernel
theorem dX1_become_22 : decode cX1_become 22 = .ok (.putfield 24, 3) := by decide +kernel
theorem dX1_become_25 : decode cX1_become 25 = .ok (.aload_n 0, 1) := by decide +kernel
theorem dX1_become_26 : decode cX1_become 26 = .ok (.iconst 0, 1) := by decide +kernel
theorem dX1_become_27 : decode cX1_become 27 = .ok (.iconst 0, 1) := by decide +kernel
theorem dX1_become_28 : decode cX1_become 28 = .ok (.iconst 0, 1) := by decide +kernel
theorem dX1_become_29 : decode cX1_become 29 = .ok (.invokevirtual 49, 3) := by decide +kernel
theorem dX1_become_32 : decode cX1_become 32 = .ok (.aload_n 0, 1) := by decide +kernel
theorem dX1_become_33 : decode cX1_become 33 = .ok (.iconst 0, 1) := by decide +kernel
theorem dX1_become_34 : decode cX1_become 34 = .ok (.putfield 36, 3) := by decide +kernel
theorem dX1_become_37 : decode cX1_become 37 = .ok (.iconst 0, 1) := by decide +kernel
theorem dX1_become_38 : decode cX1_become 38 = .ok (.istore_n 3, 1) := by decide +kernel
theorem dX1_become_39 : decode cX1_become 39 = .ok (.iload_n 3, 1) := by decide +kernel
theorem dX1_become_40 : decode cX1_become 40 = .ok (.aload_n 0, 1) := by decide +kernel
theorem dX1_become_41 : decode cX1_become 41 = .ok (.getfield 46, 3) := by decide +kernel
theorem dX1_become_44 : decode cX1_become 44 = .ok (.arraylength, 1) := by decide +kernel
theorem dX1_become_45 : decode cX1_become 45 = .ok (.if_icmp .ge 16, 3) := by decide +kernel
theorem dX1_become_48 : decode cX1_become 48 = .ok (.aload_n 0, 1) := by decide +kernel
theorem dX1_become_49 : decode cX1_become 49 = .ok (.getfield 46, 3) := by decide +kernel
theorem dX1_become_52 : decode cX1_become 52 = .ok (.iload_n 3, 1) := by decide +kernel
theorem dX1_become_53 : decode cX1_become 53 = .ok (.iconst 0, 1) := by decide +kernel
theorem dX1_become_54 : decode cX1_become 54 = .ok (.iastore, 1) := by decide +kernel
theorem dX1_become_55 : decode cX1_become 55 = .ok (.iinc 3 1, 3) := by decide +kernel
theorem dX1_become_58 : decode cX1_become 58 = .ok (.goto (-19), 3) := by decide +kernel
theorem dX1_become_61 : decode cX1_become 61 = .ok (.return_, 1) := by decide +kernel
theorem dX1_copyFrom_0 : decode cX1_copyFrom 0 = .ok (.aload_n 0, 1) := by decide +kernel
theorem dX1_copyFrom_1 : decode cX1_copyFrom 1 = .ok (.aload_n 1, 1) := by decide +kernel
theorem dX1_copyFrom_2 : decode cX1_copyFrom 2 = .ok (.getfield 9, 3) := by decide +kernel
theorem dX1_copyFrom_5 : decode cX1_copyFrom 5 = .ok (.putfield 9, 3) := by decide +kernel
theorem dX1_copyFrom_8 : decode cX1_copyFrom 8 = .ok (.aload_n 0, 1) := by decide +kernel
theorem dX1_copyFrom_9 : decode cX1_copyFrom 9 = .ok (.aload_n 1, 1) := by decide +kernel
theorem dX1_copyFrom_10 : decode cX1_copyFrom 10 = .ok (.getfield 15, 3) := by decide +kernel
theorem dX1_copyFrom_13 : decode cX1_copyFrom 13 = .ok (.putfield 15, 3) := by decide +kernel
theorem dX1_copyFrom_16 : decode cX1_copyFrom 16 = .ok (.aload_n 0, 1) := by decide +kernel
theorem dX1_copyFrom_17 : decode cX1_copyFrom 17 = .ok (.aload_n 1, 1) := by decide +kernel
theorem dX1_copyFrom_18 : decode cX1_copyFrom 18 = .ok (.getfield 18, 3) := by decide +kernel
theorem dX1_copyFrom_21 : decode cX1_copyFrom 21 = .ok (.putfield 18, 3) := by decide +kernel
theorem dX1_copyFrom_24 : decode cX1_copyFrom 24 = .ok (.aload_n 0, 1) := by decide +kernel
theorem dX1_copyFrom_25 : decode cX1_copyFrom 25 = .ok (.aload_n 1, 1) := by decide +kernel
theorem dX1_copyFrom_26 : decode cX1_copyFrom 26 = .ok (.getfield 21, 3) := by decide +kernel
theorem dX1_copyFrom_29 : decode cX1_copyFrom 29 = .ok (.putfield 21, 3) := by decide +kernel
theorem dX1_copyFrom_32 : decode cX1_copyFrom 32 = .ok (.aload_n 0, 1) := by decide +kernel
theorem dX1_copyFrom_33 : decode cX1_copyFrom 33 = .ok (.aload_n 1, 1) := by decide +kernel
theorem dX1_copyFrom_34 : decode cX1_copyFrom 34 = .ok (.getfield 24, 3) := by decide +kernel
theorem dX1_copyFrom_37 : decode cX1_copyFrom 37 = .ok (.putfield 24, 3) := by decide +kernel
theorem dX1_copyFrom_40 : decode cX1_copyFrom 40 = .ok (.aload_n 0, 1) := by decide +kernel
theorem dX1_copyFrom_41 : decode cX1_copyFrom 41 = .ok (.aload_n 1, 1) := by decide +kernel
theorem dX1_copyFrom_42 : decode cX1_copyFrom 42 = .ok (.getfield 27, 3) := by decide +kernel
theorem dX1_copyFrom_45 : decode cX1_copyFrom 45 = .ok (.aload_n 1, 1) := by decide +kernel
theorem dX1_copyFrom_46 : decode cX1_copyFrom 46 = .ok (.getfield 30, 3) := by decide +kernel
theorem dX1_copyFrom_49 : decode cX1_copyFrom 49 = .ok (.aload_n 1, 1) := by decide +kernel
theorem dX1_copyFrom_50 : decode cX1_copyFrom 50 = .ok (.getfield 33, 3) := by decide +kernel
theorem dX1_copyFrom_53 : decode cX1_copyFrom 53 = .ok (.invokevirtual 49, 3) := by decide +kernel
theorem dX1_copyFrom_56 : decode cX1_copyFrom 56 = .ok (.aload_n 0, 1) := by decide +kernel
theorem dX1_copyFrom_57 : decode cX1_copyFrom 57 = .ok (.aload_n 1, 1) := by decide +kernel
theorem dX1_copyFrom_58 : decode cX1_copyFrom 58 = .ok (.getfield 36, 3) := by decide +kernel
theorem dX1_copyFrom_61 : decode cX1_copyFrom 61 = .ok (.putfield 36, 3) := by decide +kernel
theorem dX1_copyFrom_64 : decode cX1_copyFrom 64 = .ok (.aload_n 1, 1) := by decide +kernel
theorem dX1_copyFrom_65 : decode cX1_copyFrom 65 = .ok (.getfield 39, 3) := by decide +kernel
theorem dX1_copyFrom_68 : decode cX1_copyFrom 68 = .ok (.iconst 0, 1) := by decide +kernel
theorem dX1_copyFrom_69 : decode cX1_copyFrom 69 = .ok (.aload_n 0, 1) := by decide +kernel
theorem dX1_copyFrom_70 : decode cX1_copyFrom 70 = .ok (.getfield 39, 3) := by decide +kernel
theorem dX1_copyFrom_73 : decode cX1_copyFrom 73 = .ok (.iconst 0, 1) := by decide +kernel
theorem dX1_copyFrom_74 : decode cX1_copyFrom 74 = .ok (.bipush 12, 2) := by decide +kernel
theorem dX1_copyFrom_76 : decode cX1_copyFrom 76 = .ok (.invokestatic 53, 3) := by decide +kernel
theorem dX1_copyFrom_79 : decode cX1_copyFrom 79 = .ok (.aload_n 1, 1) := by decide +kernel
theorem dX1_copyFrom_80 : decode cX1_copyFrom 80 = .ok (.getfield 43, 3) := by decide +kernel
theorem dX1_copyFrom_83 : decode cX1_copyFrom 83 = .ok (.iconst 0, 1) := by decide +kernel
theorem dX1_copyFrom_84 : decode cX1_copyFrom 84 = .ok (.aload_n 0, 1) := by decide +kernel
theorem dX1_copyFrom_85 : decode cX1_copyFrom 85 = .ok (.getfield 43, 3) := by decide +kernel
theorem dX1_copyFrom_88 : decode cX1_copyFrom 88 = .ok (.iconst 0, 1) := by decide +kernel
theorem dX1_copyFrom_89 : decode cX1_copyFrom 89 = .ok (.bipush 12, 2) := by decide +kernel
theorem dX1_copyFrom_91 : decode cX1_copyFrom 91 = .ok (.invokestatic 53, 3) := by decide +kernel
theorem dX1_copyFrom_94 : decode cX1_copyFrom 94 = .ok (.aload_n 1, 1) := by decide +kernel
theorem dX1_copyFrom_95 : decode cX1_copyFrom 95 = .ok (.getfield 46, 3) := by decide +kernel
theorem dX1_copyFrom_98 : decode cX1_copyFrom 98 = .ok (.iconst 0, 1) := by decide +kernel
theorem dX1_copyFrom_99 : decode cX1_copyFrom 99 = .ok (.aload_n 0, 1) := by decide +kernel
theorem dX1_copyFrom_100 : decode cX1_copyFrom 100 = .ok (.getfield 46, 3) := by decide +kernel
theorem dX1_copyFrom_103 : decode cX1_copyFrom 103 = .ok (.iconst 0, 1) := by decide +kernel
theorem dX1_copyFrom_104 : decode cX1_copyFrom 104 = .ok (.bipush 20, 2) := by decide +kernel
theorem dX1_copyFrom_106 : decode cX1_copyFrom 106 = .ok (.invokestatic 53, 3) := by decide +kernel
theorem dX1_copyFrom_109 : decode cX1_copyFrom 109 = .ok (.return_, 1) := by decide +kernel
theorem dX1_aim_0 : decode cX1_aim 0 = .ok (.aload_n 0, 1) := by decide +kernel
theorem dX1_aim_1 : decode cX1_aim 1 = .ok (.iload_n 1, 1) := by decide +kernel
theorem dX1_aim_2 : decode cX1_aim 2 = .ok (.putfield 27, 3) := by decide +kernel
theorem dX1_aim_5 : decode cX1_aim 5 = .ok (.aload_n 0, 1) := by decide +kernel
theorem dX1_aim_6 : decode cX1_aim 6 = .ok (.iload_n 2, 1) := by decide +kernel
theorem dX1_aim_7 : decode cX1_aim 7 = .ok (.putfield 30, 3) := by decide +kernel
theorem dX1_aim_10 : decode cX1_aim 10 = .ok (.aload_n 0, 1) := by decide +kernel
theorem dX1_aim_11 : decode cX1_aim 11 = .ok (.iload_n 3, 1) := by decide +kernel
theorem dX1_aim_12 : decode cX1_aim 12 = .ok (.putfield 33, 3) := by decide +kernel
theorem dX1_aim_15 : decode cX1_aim 15 = .ok (.return_, 1) := by decide +kernel
theorem dX1_isForsaken_0 : decode cX1_isForsaken 0 = .ok (.aload_n 0, 1) := by decide +kernel
theorem dX1_isForsaken_1 : decode cX1_isForsaken 1 = .ok (.getfield 9, 3) := by decide +kernel
theorem dX1_isForsaken_4 : decode cX1_isForsaken 4 = .ok (.iconst 1, 1) := by decide +kernel
theorem dX1_isForsaken_5 : decode cX1_isForsaken 5 = .ok (.if_icmp .ne 14, 3) := by decide +kernel
theorem dX1_isForsaken_8 : decode cX1_isForsaken 8 = .ok (.aload_n 0, 1) := by decide +kernel
theorem dX1_isForsaken_9 : decode cX1_isForsaken 9 = .ok (.getfield 18, 3) := by decide +kernel
theorem dX1_isForsaken_12 : decode cX1_isForsaken 12 = .ok (.ifCond .ne 7, 3) := by decide +kernel
theorem dX1_isForsaken_15 : decode cX1_isForsaken 15 = .ok (.iconst 1, 1) := by decide +kernel
theorem dX1_isForsaken_16 : decode cX1_isForsaken 16 = .ok (.goto 4, 3) := by decide +kernel
theorem dX1_isForsaken_19 : decode cX1_isForsaken 19 = .ok (.iconst 0, 1) := by decide +kernel
theorem dX1_isForsaken_20 : decode cX1_isForsaken 20 = .ok (.ireturn, 1) := by decide +kernel
theorem dX1_slotOf_0 : decode cX1_slotOf 0 = .ok (.iconst 0, 1) := by decide +kernel
theorem dX1_slotOf_1 : decode cX1_slotOf 1 = .ok (.istore_n 2, 1) := by decide +kernel
theorem dX1_slotOf_2 : decode cX1_slotOf 2 = .ok (.iload_n 2, 1) := by decide +kernel
theorem dX1_slotOf_3 : decode cX1_slotOf 3 = .ok (.aload_n 0, 1) := by decide +kernel
theorem dX1_slotOf_4 : decode cX1_slotOf 4 = .ok (.getfield 36, 3) := by decide +kernel
theorem dX1_slotOf_7 : decode cX1_slotOf 7 = .ok (.if_icmp .ge 30, 3) := by decide +kernel
theorem dX1_slotOf_10 : decode cX1_slotOf 10 = .ok (.iload_n 2, 1) := by decide +kernel
theorem dX1_slotOf_11 : decode cX1_slotOf 11 = .ok (.aload_n 0, 1) := by decide +kernel
theorem dX1_slotOf_12 : decode cX1_slotOf 12 = .ok (.getfield 39, 3) := by decide +kernel
theorem dX1_slotOf_15 : decode cX1_slotOf 15 = .ok (.arraylength, 1) := by decide +kernel
theorem dX1_slotOf_16 : decode cX1_slotOf 16 = .ok (.if_icmp .ge 21, 3) := by decide +kernel
theorem dX1_slotOf_19 : decode cX1_slotOf 19 = .ok (.aload_n 0, 1) := by decide +kernel
theorem dX1_slotOf_20 : decode cX1_slotOf 20 = .ok (.getfield 39, 3) := by decide +kernel
theorem dX1_slotOf_23 : decode cX1_slotOf 23 = .ok (.iload_n 2, 1) := by decide +kernel
theorem dX1_slotOf_24 : decode cX1_slotOf 24 = .ok (.iaload, 1) := by decide +kernel
theorem dX1_slotOf_25 : decode cX1_slotOf 25 = .ok (.iload_n 1, 1) := by decide +kernel
theorem dX1_slotOf_26 : decode cX1_slotOf 26 = .ok (.if_icmp .ne 5, 3) := by decide +kernel
theorem dX1_slotOf_29 : decode cX1_slotOf 29 = .ok (.iload_n 2, 1) := by decide +kernel
theorem dX1_slotOf_30 : decode cX1_slotOf 30 = .ok (.ireturn, 1) := by decide +kernel
theorem dX1_slotOf_31 : decode cX1_slotOf 31 = .ok (.iinc 2 1, 3) := by decide +kernel
theorem dX1_slotOf_34 : decode cX1_slotOf 34 = .ok (.goto (-32), 3) := by decide +kernel
theorem dX1_slotOf_37 : decode cX1_slotOf 37 = .ok (.iconst (-1), 1) := by decide +kernel
theorem dX1_slotOf_38 : decode cX1_slotOf 38 = .ok (.ireturn, 1) := by decide +kernel
theorem dX1_nodeNamed_0 : decode cX1_nodeNamed 0 = .ok (.aload_n 0, 1) := by decide +kernel
theorem dX1_nodeNamed_1 : decode cX1_nodeNamed 1 = .ok (.aload_n 0, 1) := by decide +kernel
theorem dX1_nodeNamed_2 : decode cX1_nodeNamed 2 = .ok (.iload_n 1, 1) := by decide +kernel
theorem dX1_nodeNamed_3 : decode cX1_nodeNamed 3 = .ok (.invokevirtual 59, 3) := by decide +kernel
theorem dX1_nodeNamed_6 : decode cX1_nodeNamed 6 = .ok (.invokevirtual 63, 3) := by decide +kernel
theorem dX1_nodeNamed_9 : decode cX1_nodeNamed 9 = .ok (.ireturn, 1) := by decide +kernel
theorem dX1_nodeIn_0 : decode cX1_nodeIn 0 = .ok (.iload_n 1, 1) := by decide +kernel
theorem dX1_nodeIn_1 : decode cX1_nodeIn 1 = .ok (.ifCond .lt 29, 3) := by decide +kernel
theorem dX1_nodeIn_4 : decode cX1_nodeIn 4 = .ok (.iload_n 1, 1) := by decide +kernel
theorem dX1_nodeIn_5 : decode cX1_nodeIn 5 = .ok (.aload_n 0, 1) := by decide +kernel
theorem dX1_nodeIn_6 : decode cX1_nodeIn 6 = .ok (.getfield 36, 3) := by decide +kernel
theorem dX1_nodeIn_9 : decode cX1_nodeIn 9 = .ok (.if_icmp .ge 21, 3) := by decide +kernel
theorem dX1_nodeIn_12 : decode cX1_nodeIn 12 = .ok (.iload_n 1, 1) := by decide +kernel
theorem dX1_nodeIn_13 : decode cX1_nodeIn 13 = .ok (.aload_n 0, 1) := by decide +kernel
theorem dX1_nodeIn_14 : decode cX1_nodeIn 14 = .ok (.getfield 43, 3) := by decide +kernel
theorem dX1_nodeIn_17 : decode cX1_nodeIn 17 = .ok (.arraylength, 1) := by decide +kernel
theorem dX1_nodeIn_18 : decode cX1_nodeIn 18 = .ok (.if_icmp .ge 12, 3) := by decide +kernel
theorem dX1_nodeIn_21 : decode cX1_nodeIn 21 = .ok (.aload_n 0, 1) := by decide +kernel
theorem dX1_nodeIn_22 : decode cX1_nodeIn 22 = .ok (.getfield 43, 3) := by decide +kernel
theorem dX1_nodeIn_25 : decode cX1_nodeIn 25 = .ok (.iload_n 1, 1) := by decide +kernel
theorem dX1_nodeIn_26 : decode cX1_nodeIn 26 = .ok (.iaload, 1) := by decide +kernel
theorem dX1_nodeIn_27 : decode cX1_nodeIn 27 = .ok (.goto 4, 3) := by decide +kernel
theorem dX1_nodeIn_30 : decode cX1_nodeIn 30 = .ok (.iconst (-1), 1) := by decide +kernel
theorem dX1_nodeIn_31 : decode cX1_nodeIn 31 = .ok (.ireturn, 1) := by decide +kernel
theorem dX1_nameOf_0 : decode cX1_nameOf 0 = .ok (.iload_n 1, 1) := by decide +kernel
theorem dX1_nameOf_1 : decode cX1_nameOf 1 = .ok (.ifCond .lt 29, 3) := by decide +kernel
theorem dX1_nameOf_4 : decode cX1_nameOf 4 = .ok (.iload_n 1, 1) := by decide +kernel
theorem dX1_nameOf_5 : decode cX1_nameOf 5 = .ok (.aload_n 0, 1) := by decide +kernel
theorem dX1_nameOf_6 : decode cX1_nameOf 6 = .ok (.getfield 36, 3) := by decide +kernel
theorem dX1_nameOf_9 : decode cX1_nameOf 9 = .ok (.if_icmp .ge 21, 3) := by decide +kernel
theorem dX1_nameOf_12 : decode cX1_nameOf 12 = .ok (.iload_n 1, 1) := by decide +kernel
theorem dX1_nameOf_13 : decode cX1_nameOf 13 = .ok (.aload_n 0, 1) := by decide +kernel
theorem dX1_nameOf_14 : decode cX1_nameOf 14 = .ok (.getfield 39, 3) := by decide +kernel
theorem dX1_nameOf_17 : decode cX1_nameOf 17 = .ok (.arraylength, 1) := by decide +kernel
theorem dX1_nameOf_18 : decode cX1_nameOf 18 = .ok (.if_icmp .ge 12, 3) := by decide +kernel
theorem dX1_nameOf_21 : decode cX1_nameOf 21 = .ok (.aload_n 0, 1) := by decide +kernel
theorem dX1_nameOf_22 : decode cX1_nameOf 22 = .ok (.getfield 39, 3) := by decide +kernel
theorem dX1_nameOf_25 : decode cX1_nameOf 25 = .ok (.iload_n 1, 1) := by decide +kernel
theorem dX1_nameOf_26 : decode cX1_nameOf 26 = .ok (.iaload, 1) := by decide +kernel
theorem dX1_nameOf_27 : decode cX1_nameOf 27 = .ok (.goto 4, 3) := by decide +kernel
theorem dX1_nameOf_30 : decode cX1_nameOf 30 = .ok (.iconst (-1), 1) := by decide +kernel
theorem dX1_nameOf_31 : decode cX1_nameOf 31 = .ok (.ireturn, 1) := by decide +kernel
theorem dX1_turnSlot_0 : decode cX1_turnSlot 0 = .ok (.iload_n 1, 1) := by decide +kernel
theorem dX1_turnSlot_1 : decode cX1_turnSlot 1 = .ok (.ifCond .lt 19, 3) := by decide +kernel
theorem dX1_turnSlot_4 : decode cX1_turnSlot 4 = .ok (.iload_n 1, 1) := by decide +kernel
theorem dX1_turnSlot_5 : decode cX1_turnSlot 5 = .ok (.aload_n 0, 1) := by decide +kernel
theorem dX1_turnSlot_6 : decode cX1_turnSlot 6 = .ok (.getfield 43, 3) := by decide +kernel
theorem dX1_turnSlot_9 : decode cX1_turnSlot 9 = .ok (.arraylength, 1) := by decide +kernel
theorem dX1_turnSlot_10 : decode cX1_turnSlot 10 = .ok (.if_icmp .ge 10, 3) := by decide +kernel
theorem dX1_turnSlot_13 : decode cX1_turnSlot 13 = .ok (.aload_n 0, 1) := by decide +kernel
theorem dX1_turnSlot_14 : decode cX1_turnSlot 14 = .ok (.getfield 43, 3) := by decide +kernel
theorem dX1_turnSlot_17 : decode cX1_turnSlot 17 = .ok (.iload_n 1, 1) := by decide +kernel
theorem dX1_turnSlot_18 : decode cX1_turnSlot 18 = .ok (.iload_n 2, 1) := by decide +kernel
theorem dX1_turnSlot_19 : decode cX1_turnSlot 19 = .ok (.iastore, 1) := by decide +kernel
theorem dX1_turnSlot_20 : decode cX1_turnSlot 20 = .ok (.return_, 1) := by decide +kernel
theorem dX1_insert_0 : decode cX1_insert 0 = .ok (.aload_n 0, 1) := by decide +kernel
theorem dX1_insert_1 : decode cX1_insert 1 = .ok (.getfield 36, 3) := by decide +kernel
theorem dX1_insert_4 : decode cX1_insert 4 = .ok (.ifCond .lt 27, 3) := by decide +kernel
theorem dX1_insert_7 : decode cX1_insert 7 = .ok (.aload_n 0, 1) := by decide +kernel
theorem dX1_insert_8 : decode cX1_insert 8 = .ok (.getfield 36, 3) := by decide +kernel
theorem dX1_insert_11 : decode cX1_insert 11 = .ok (.aload_n 0, 1) := by decide +kernel
theorem dX1_insert_12 : decode cX1_insert 12 = .ok (.getfield 39, 3) := by decide +kernel
theorem dX1_insert_15 : decode cX1_insert 15 = .ok (.arraylength, 1) := by decide +kernel
theorem dX1_insert_16 : decode cX1_insert 16 = .ok (.if_icmp .ge 15, 3) := by decide +kernel
theorem dX1_insert_19 : decode cX1_insert 19 = .ok (.aload_n 0, 1) := by decide +kernel
theorem dX1_insert_20 : decode cX1_insert 20 = .ok (.getfield 36, 3) := by decide +kernel
theorem dX1_insert_23 : decode cX1_insert 23 = .ok (.aload_n 0, 1) := by decide +kernel
theorem dX1_insert_24 : decode cX1_insert 24 = .ok (.getfield 43, 3) := by decide +kernel
theorem dX1_insert_27 : decode cX1_insert 27 = .ok (.arraylength, 1) := by decide +kernel
theorem dX1_insert_28 : decode cX1_insert 28 = .ok (.if_icmp .lt 4, 3) := by decide +kernel
theorem dX1_insert_31 : decode cX1_insert 31 = .ok (.return_, 1) := by decide +kernel
theorem dX1_insert_32 : decode cX1_insert 32 = .ok (.aload_n 0, 1) := by decide +kernel
theorem dX1_insert_33 : decode cX1_insert 33 = .ok (.getfield 36, 3) := by decide +kernel
theorem dX1_insert_36 : decode cX1_insert 36 = .ok (.istore_n 3, 1) := by decide +kernel
theorem dX1_insert_37 : decode cX1_insert 37 = .ok (.iload_n 3, 1) := by decide +kernel
theorem dX1_insert_38 : decode cX1_insert 38 = .ok (.ifCond .le 49, 3) := by decide +kernel
theorem dX1_insert_41 : decode cX1_insert 41 = .ok (.aload_n 0, 1) := by decide +kernel
theorem dX1_insert_42 : decode cX1_insert 42 = .ok (.getfield 39, 3) := by decide +kernel
theorem dX1_insert_45 : decode cX1_insert 45 = .ok (.iload_n 3, 1) := by decide +kernel
theorem dX1_insert_46 : decode cX1_insert 46 = .ok (.iconst 1, 1) := by decide +kernel
theorem dX1_insert_47 : decode cX1_insert 47 = .ok (.isub, 1) := by decide +kernel
theorem dX1_insert_48 : decode cX1_insert 48 = .ok (.iaload, 1) := by decide +kernel
theorem dX1_insert_49 : decode cX1_insert 49 = .ok (.iload_n 1, 1) := by decide +kernel
theorem dX1_insert_50 : decode cX1_insert 50 = .ok (.if_icmp .le 37, 3) := by decide +kernel
theorem dX1_insert_53 : decode cX1_insert 53 = .ok (.aload_n 0, 1) := by decide +kernel
theorem dX1_insert_54 : decode cX1_insert 54 = .ok (.getfield 39, 3) := by decide +kernel
theorem dX1_insert_57 : decode cX1_insert 57 = .ok (.iload_n 3, 1) := by decide +kernel
theorem dX1_insert_58 : decode cX1_insert 58 = .ok (.aload_n 0, 1) := by decide +kernel
theorem dX1_insert_59 : decode cX1_insert 59 = .ok (.getfield 39, 3) := by decide +kernel
theorem dX1_insert_62 : decode cX1_insert 62 = .ok (.iload_n 3, 1) := by decide +kernel
theorem dX1_insert_63 : decode cX1_insert 63 = .ok (.iconst 1, 1) := by decide +kernel
theorem dX1_insert_64 : decode cX1_insert 64 = .ok (.isub, 1) := by decide +kernel
theorem dX1_insert_65 : decode cX1_insert 65 = .ok (.iaload, 1) := by decide +kernel
theorem dX1_insert_66 : decode cX1_insert 66 = .ok (.iastore, 1) := by decide +kernel
theorem dX1_insert_67 : decode cX1_insert 67 = .ok (.aload_n 0, 1) := by decide +kernel
theorem dX1_insert_68 : decode cX1_insert 68 = .ok (.getfield 43, 3) := by decide +kernel
theorem dX1_insert_71 : decode cX1_insert 71 = .ok (.iload_n 3, 1) := by decide +kernel
theorem dX1_insert_72 : decode cX1_insert 72 = .ok (.aload_n 0, 1) := by decide +kernel
theorem dX1_insert_73 : decode cX1_insert 73 = .ok (.getfield 43, 3) := by decide +kernel
theorem dX1_insert_76 : decode cX1_insert 76 = .ok (.iload_n 3, 1) := by decide +kernel
theorem dX1_insert_77 : decode cX1_insert 77 = .ok (.iconst 1, 1) := by decide +kernel
theorem dX1_insert_78 : decode cX1_insert 78 = .ok (.isub, 1) := by decide +kernel
theorem dX1_insert_79 : decode cX1_insert 79 = .ok (.iaload, 1) := by decide +kernel
theorem dX1_insert_80 : decode cX1_insert 80 = .ok (.iastore, 1) := by decide +kernel
theorem dX1_insert_81 : decode cX1_insert 81 = .ok (.iinc 3 (-1), 3) := by decide +kernel
theorem dX1_insert_84 : decode cX1_insert 84 = .ok (.goto (-47), 3) := by decide +kernel
theorem dX1_insert_87 : decode cX1_insert 87 = .ok (.aload_n 0, 1) := by decide +kernel
theorem dX1_insert_88 : decode cX1_insert 88 = .ok (.getfield 39, 3) := by decide +kernel
theorem dX1_insert_91 : decode cX1_insert 91 = .ok (.iload_n 3, 1) := by decide +kernel
theorem dX1_insert_92 : decode cX1_insert 92 = .ok (.iload_n 1, 1) := by decide +kernel
theorem dX1_insert_93 : decode cX1_insert 93 = .ok (.iastore, 1) := by decide +kernel
theorem dX1_insert_94 : decode cX1_insert 94 = .ok (.aload_n 0, 1) := by decide +kernel
theorem dX1_insert_95 : decode cX1_insert 95 = .ok (.getfield 43, 3) := by decide +kernel
theorem dX1_insert_98 : decode cX1_insert 98 = .ok (.iload_n 3, 1) := by decide +kernel
theorem dX1_insert_99 : decode cX1_insert 99 = .ok (.iload_n 2, 1) := by decide +kernel
theorem dX1_insert_100 : decode cX1_insert 100 = .ok (.iastore, 1) := by decide +kernel
theorem dX1_insert_101 : decode cX1_insert 101 = .ok (.aload_n 0, 1) := by decide +kernel
theorem dX1_insert_102 : decode cX1_insert 102 = .ok (.dup, 1) := by decide +kernel
theorem dX1_insert_103 : decode cX1_insert 103 = .ok (.getfield 36, 3) := by decide +kernel
theorem dX1_insert_106 : decode cX1_insert 106 = .ok (.iconst 1, 1) := by decide +kernel
theorem dX1_insert_107 : decode cX1_insert 107 = .ok (.iadd, 1) := by decide +kernel
theorem dX1_insert_108 : decode cX1_insert 108 = .ok (.putfield 36, 3) := by decide +kernel
theorem dX1_insert_111 : decode cX1_insert 111 = .ok (.return_, 1) := by decide +kernel
theorem dX1_takeOut_0 : decode cX1_takeOut 0 = .ok (.iload_n 1, 1) := by decide +kernel
theorem dX1_takeOut_1 : decode cX1_takeOut 1 = .ok (.ifCond .lt 11, 3) := by decide +kernel
theorem dX1_takeOut_4 : decode cX1_takeOut 4 = .ok (.iload_n 1, 1) := by decide +kernel
theorem dX1_takeOut_5 : decode cX1_takeOut 5 = .ok (.aload_n 0, 1) := by decide +kernel
theorem dX1_takeOut_6 : decode cX1_takeOut 6 = .ok (.getfield 36, 3) := by decide +kernel
theorem dX1_takeOut_9 : decode cX1_takeOut 9 = .ok (.if_icmp .lt 4, 3) := by decide +kernel
theorem dX1_takeOut_12 : decode cX1_takeOut 12 = .ok (.return_, 1) := by decide +kernel
theorem dX1_takeOut_13 : decode cX1_takeOut 13 = .ok (.iload_n 1, 1) := by decide +kernel
theorem dX1_takeOut_14 : decode cX1_takeOut 14 = .ok (.iconst 1, 1) := by decide +kernel
theorem dX1_takeOut_15 : decode cX1_takeOut 15 = .ok (.iadd, 1) := by decide +kernel
theorem dX1_takeOut_16 : decode cX1_takeOut 16 = .ok (.istore_n 2, 1) := by decide +kernel
theorem dX1_takeOut_17 : decode cX1_takeOut 17 = .ok (.iload_n 2, 1) := by decide +kernel
theorem dX1_takeOut_18 : decode cX1_takeOut 18 = .ok (.aload_n 0, 1) := by decide +kernel
theorem dX1_takeOut_19 : decode cX1_takeOut 19 = .ok (.getfield 36, 3) := by decide +kernel
theorem dX1_takeOut_22 : decode cX1_takeOut 22 = .ok (.if_icmp .ge 55, 3) := by decide +kernel
theorem dX1_takeOut_25 : decode cX1_takeOut 25 = .ok (.iload_n 2, 1) := by decide +kernel
theorem dX1_takeOut_26 : decode cX1_takeOut 26 = .ok (.aload_n 0, 1) := by decide +kernel
theorem dX1_takeOut_27 : decode cX1_takeOut 27 = .ok (.getfield 39, 3) := by decide +kernel
theorem dX1_takeOut_30 : decode cX1_takeOut 30 = .ok (.arraylength, 1) := by decide +kernel
theorem dX1_takeOut_31 : decode cX1_takeOut 31 = .ok (.if_icmp .ge 46, 3) := by decide +kernel
theorem dX1_takeOut_34 : decode cX1_takeOut 34 = .ok (.iload_n 2, 1) := by decide +kernel
theorem dX1_takeOut_35 : decode cX1_takeOut 35 = .ok (.aload_n 0, 1) := by decide +kernel
theorem dX1_takeOut_36 : decode cX1_takeOut 36 = .ok (.getfield 43, 3) := by decide +kernel
theorem dX1_takeOut_39 : decode cX1_takeOut 39 = .ok (.arraylength, 1) := by decide +kernel
theorem dX1_takeOut_40 : decode cX1_takeOut 40 = .ok (.if_icmp .ge 37, 3) := by decide +kernel
theorem dX1_takeOut_43 : decode cX1_takeOut 43 = .ok (.aload_n 0, 1) := by decide +kernel
theorem dX1_takeOut_44 : decode cX1_takeOut 44 = .ok (.getfield 39, 3) := by decide +kernel
theorem dX1_takeOut_47 : decode cX1_takeOut 47 = .ok (.iload_n 2, 1) := by decide +kernel
theorem dX1_takeOut_48 : decode cX1_takeOut 48 = .ok (.iconst 1, 1) := by decide +kernel
theorem dX1_takeOut_49 : decode cX1_takeOut 49 = .ok (.isub, 1) := by decide +kernel
theorem dX1_takeOut_50 : decode cX1_takeOut 50 = .ok (.aload_n 0, 1) := by decide +kernel
theorem dX1_takeOut_51 : decode cX1_takeOut 51 = .ok (.getfield 39, 3) := by decide +kernel
theorem dX1_takeOut_54 : decode cX1_takeOut 54 = .ok (.iload_n 2, 1) := by decide +kernel
theorem dX1_takeOut_55 : decode cX1_takeOut 55 = .ok (.iaload, 1) := by decide +kernel
theorem dX1_takeOut_56 : decode cX1_takeOut 56 = .ok (.iastore, 1) := by decide +kernel
theorem dX1_takeOut_57 : decode cX1_takeOut 57 = .ok (.aload_n 0, 1) := by decide +kernel
theorem dX1_takeOut_58 : decode cX1_takeOut 58 = .ok (.getfield 43, 3) := by decide +kernel
theorem dX1_takeOut_61 : decode cX1_takeOut 61 = .ok (.iload_n 2, 1) := by decide +kernel
theorem dX1_takeOut_62 : decode cX1_takeOut 62 = .ok (.iconst 1, 1) := by decide +kernel
theorem dX1_takeOut_63 : decode cX1_takeOut 63 = .ok (.isub, 1) := by decide +kernel
theorem dX1_takeOut_64 : decode cX1_takeOut 64 = .ok (.aload_n 0, 1) := by decide +kernel
theorem dX1_takeOut_65 : decode cX1_takeOut 65 = .ok (.getfield 43, 3) := by decide +kernel
theorem dX1_takeOut_68 : decode cX1_takeOut 68 = .ok (.iload_n 2, 1) := by decide +kernel
theorem dX1_takeOut_69 : decode cX1_takeOut 69 = .ok (.iaload, 1) := by decide +kernel
theorem dX1_takeOut_70 : decode cX1_takeOut 70 = .ok (.iastore, 1) := by decide +kernel
theorem dX1_takeOut_71 : decode cX1_takeOut 71 = .ok (.iinc 2 1, 3) := by decide +kernel
theorem dX1_takeOut_74 : decode cX1_takeOut 74 = .ok (.goto (-57), 3) := by decide +kernel
theorem dX1_takeOut_77 : decode cX1_takeOut 77 = .ok (.aload_n 0, 1) := by decide +kernel
theorem dX1_takeOut_78 : decode cX1_takeOut 78 = .ok (.dup, 1) := by decide +kernel
theorem dX1_takeOut_79 : decode cX1_takeOut 79 = .ok (.getfield 36, 3) := by decide +kernel
theorem dX1_takeOut_82 : decode cX1_takeOut 82 = .ok (.iconst 1, 1) := by decide +kernel
theorem dX1_takeOut_83 : decode cX1_takeOut 83 = .ok (.isub, 1) := by decide +kernel
theorem dX1_takeOut_84 : decode cX1_takeOut 84 = .ok (.putfield 36, 3) := by decide +kernel
theorem dX1_takeOut_87 : decode cX1_takeOut 87 = .ok (.return_, 1) := by decide +kernel
theorem dX1_blockAt_0 : decode cX1_blockAt 0 = .ok (.iload_n 1, 1) := by decide +kernel
theorem dX1_blockAt_1 : decode cX1_blockAt 1 = .ok (.ifCond .lt 21, 3) := by decide +kernel
theorem dX1_blockAt_4 : decode cX1_blockAt 4 = .ok (.iload_n 1, 1) := by decide +kernel
theorem dX1_blockAt_5 : decode cX1_blockAt 5 = .ok (.aload_n 0, 1) := by decide +kernel
theorem dX1_blockAt_6 : decode cX1_blockAt 6 = .ok (.getfield 46, 3) := by decide +kernel
theorem dX1_blockAt_9 : decode cX1_blockAt 9 = .ok (.arraylength, 1) := by decide +kernel
theorem dX1_blockAt_10 : decode cX1_blockAt 10 = .ok (.if_icmp .ge 12, 3) := by decide +kernel
theorem dX1_blockAt_13 : decode cX1_blockAt 13 = .ok (.aload_n 0, 1) := by decide +kernel
theorem dX1_blockAt_14 : decode cX1_blockAt 14 = .ok (.getfield 46, 3) := by decide +kernel
theorem dX1_blockAt_17 : decode cX1_blockAt 17 = .ok (.iload_n 1, 1) := by decide +kernel
theorem dX1_blockAt_18 : decode cX1_blockAt 18 = .ok (.iaload, 1) := by decide +kernel
theorem dX1_blockAt_19 : decode cX1_blockAt 19 = .ok (.goto 4, 3) := by decide +kernel
theorem dX1_blockAt_22 : decode cX1_blockAt 22 = .ok (.iconst 0, 1) := by decide +kernel
theorem dX1_blockAt_23 : decode cX1_blockAt 23 = .ok (.ireturn, 1) := by decide +kernel
theorem dX1_hasElsewhere_0 : decode cX1_hasElsewhere 0 = .ok (.iconst 0, 1) := by decide +kernel
theorem dX1_hasElsewhere_1 : decode cX1_hasElsewhere 1 = .ok (.istore_n 3, 1) := by decide +kernel
theorem dX1_hasElsewhere_2 : decode cX1_hasElsewhere 2 = .ok (.iload_n 3, 1) := by decide +kernel
theorem dX1_hasElsewhere_3 : decode cX1_hasElsewhere 3 = .ok (.aload_n 0, 1) := by decide +kernel
theorem dX1_hasElsewhere_4 : decode cX1_hasElsewhere 4 = .ok (.getfield 46, 3) := by decide +kernel
theorem dX1_hasElsewhere_7 : decode cX1_hasElsewhere 7 = .ok (.arraylength, 1) := by decide +kernel
theorem dX1_hasElsewhere_8 : decode cX1_hasElsewhere 8 = .ok (.if_icmp .ge 30, 3) := by decide +kernel
theorem dX1_hasElsewhere_11 : decode cX1_hasElsewhere 11 = .ok (.iload_n 3, 1) := by decide +kernel
theorem dX1_hasElsewhere_12 : decode cX1_hasElsewhere 12 = .ok (.iload_n 2, 1) := by decide +kernel
theorem dX1_hasElsewhere_13 : decode cX1_hasElsewhere 13 = .ok (.if_icmp .eq 19, 3) := by decide +kernel
theorem dX1_hasElsewhere_16 : decode cX1_hasElsewhere 16 = .ok (.iload_n 1, 1) := by decide +kernel
theorem dX1_hasElsewhere_17 : decode cX1_hasElsewhere 17 = .ok (.ifCond .eq 15, 3) := by decide +kernel
theorem dX1_hasElsewhere_20 : decode cX1_hasElsewhere 20 = .ok (.aload_n 0, 1) := by decide +kernel
theorem dX1_hasElsewhere_21 : decode cX1_hasElsewhere 21 = .ok (.getfield 46, 3) := by decide +kernel
theorem dX1_hasElsewhere_24 : decode cX1_hasElsewhere 24 = .ok (.iload_n 3, 1) := by decide +kernel
theorem dX1_hasElsewhere_25 : decode cX1_hasElsewhere 25 = .ok (.iaload, 1) := by decide +kernel
theorem dX1_hasElsewhere_26 : decode cX1_hasElsewhere 26 = .ok (.iload_n 1, 1) := by decide +kernel
theorem dX1_hasElsewhere_27 : decode cX1_hasElsewhere 27 = .ok (.if_icmp .ne 5, 3) := by decide +kernel
theorem dX1_hasElsewhere_30 : decode cX1_hasElsewhere 30 = .ok (.iconst 1, 1) := by decide +kernel
theorem dX1_hasElsewhere_31 : decode cX1_hasElsewhere 31 = .ok (.ireturn, 1) := by decide +kernel
theorem dX1_hasElsewhere_32 : decode cX1_hasElsewhere 32 = .ok (.iinc 3 1, 3) := by decide +kernel
theorem dX1_hasElsewhere_35 : decode cX1_hasElsewhere 35 = .ok (.goto (-33), 3) := by decide +kernel
theorem dX1_hasElsewhere_38 : decode cX1_hasElsewhere 38 = .ok (.iconst 0, 1) := by decide +kernel
theorem dX1_hasElsewhere_39 : decode cX1_hasElsewhere 39 = .ok (.ireturn, 1) := by decide +kernel
theorem dX1_ownBlocks_0 : decode cX1_ownBlocks 0 = .ok (.aload_n 0, 1) := by decide +kernel
theorem dX1_ownBlocks_1 : decode cX1_ownBlocks 1 = .ok (.getfield 9, 3) := by decide +kernel
theorem dX1_ownBlocks_4 : decode cX1_ownBlocks 4 = .ok (.iconst 2, 1) := by decide +kernel
theorem dX1_ownBlocks_5 : decode cX1_ownBlocks 5 = .ok (.if_icmp .ne 11, 3) := by decide +kernel
theorem dX1_ownBlocks_8 : decode cX1_ownBlocks 8 = .ok (.aload_n 0, 1) := by decide +kernel
theorem dX1_ownBlocks_9 : decode cX1_ownBlocks 9 = .ok (.getfield 36, 3) := by decide +kernel
theorem dX1_ownBlocks_12 : decode cX1_ownBlocks 12 = .ok (.invokestatic 66, 3) := by decide +kernel
theorem dX1_ownBlocks_15 : decode cX1_ownBlocks 15 = .ok (.ireturn, 1) := by decide +kernel
theorem dX1_ownBlocks_16 : decode cX1_ownBlocks 16 = .ok (.iconst 0, 1) := by decide +kernel
theorem dX1_ownBlocks_17 : decode cX1_ownBlocks 17 = .ok (.istore_n 1, 1) := by decide +kernel
theorem dX1_ownBlocks_18 : decode cX1_ownBlocks 18 = .ok (.iconst 0, 1) := by decide +kernel
theorem dX1_ownBlocks_19 : decode cX1_ownBlocks 19 = .ok (.istore_n 2, 1) := by decide +kernel
theorem dX1_ownBlocks_20 : decode cX1_ownBlocks 20 = .ok (.iload_n 2, 1) := by decide +kernel
theorem dX1_ownBlocks_21 : decode cX1_ownBlocks 21 = .ok (.aload_n 0, 1) := by decide +kernel
theorem dX1_ownBlocks_22 : decode cX1_ownBlocks 22 = .ok (.getfield 46, 3) := by decide +kernel
theorem dX1_ownBlocks_25 : decode cX1_ownBlocks 25 = .ok (.arraylength, 1) := by decide +kernel
theorem dX1_ownBlocks_26 : decode cX1_ownBlocks 26 = .ok (.if_icmp .ge 21, 3) := by decide +kernel
theorem dX1_ownBlocks_29 : decode cX1_ownBlocks 29 = .ok (.aload_n 0, 1) := by decide +kernel
theorem dX1_ownBlocks_30 : decode cX1_ownBlocks 30 = .ok (.getfield 46, 3) := by decide +kernel
theorem dX1_ownBlocks_33 : decode cX1_ownBlocks 33 = .ok (.iload_n 2, 1) := by decide +kernel
theorem dX1_ownBlocks_34 : decode cX1_ownBlocks 34 = .ok (.iaload, 1) := by decide +kernel
theorem dX1_ownBlocks_35 : decode cX1_ownBlocks 35 = .ok (.ifCond .eq 6, 3) := by decide +kernel
theorem dX1_ownBlocks_38 : decode cX1_ownBlocks 38 = .ok (.iinc 1 1, 3) := by decide +kernel
theorem dX1_ownBlocks_41 : decode cX1_ownBlocks 41 = .ok (.iinc 2 1, 3) := by decide +kernel
theorem dX1_ownBlocks_44 : decode cX1_ownBlocks 44 = .ok (.goto (-24), 3) := by decide +kernel
theorem dX1_ownBlocks_47 : decode cX1_ownBlocks 47 = .ok (.iload_n 1, 1) := by decide +kernel
theorem dX1_ownBlocks_48 : decode cX1_ownBlocks 48 = .ok (.ireturn, 1) := by decide +kernel
theorem dX1_blocksFor_0 : decode cX1_blocksFor 0 = .ok (.iload_n 0, 1) := by decide +kernel
theorem dX1_blocksFor_1 : decode cX1_blocksFor 1 = .ok (.iconst 3, 1) := by decide +kernel
theorem dX1_blocksFor_2 : decode cX1_blocksFor 2 = .ok (.iadd, 1) := by decide +kernel
theorem dX1_blocksFor_3 : decode cX1_blocksFor 3 = .ok (.iconst 4, 1) := by decide +kernel
theorem dX1_blocksFor_4 : decode cX1_blocksFor 4 = .ok (.idiv, 1) := by decide +kernel
theorem dX1_blocksFor_5 : decode cX1_blocksFor 5 = .ok (.ireturn, 1) := by decide +kernel
theorem dX1_extent_0 : decode cX1_extent 0 = .ok (.aload_n 0, 1) := by decide +kernel
theorem dX1_extent_1 : decode cX1_extent 1 = .ok (.getfield 9, 3) := by decide +kernel
theorem dX1_extent_4 : decode cX1_extent 4 = .ok (.iconst 2, 1) := by decide +kernel
theorem dX1_extent_5 : decode cX1_extent 5 = .ok (.if_icmp .ne 8, 3) := by decide +kernel
theorem dX1_extent_8 : decode cX1_extent 8 = .ok (.aload_n 0, 1) := by decide +kernel
theorem dX1_extent_9 : decode cX1_extent 9 = .ok (.getfield 36, 3) := by decide +kernel
theorem dX1_extent_12 : decode cX1_extent 12 = .ok (.ireturn, 1) := by decide +kernel
theorem dX1_extent_13 : decode cX1_extent 13 = .ok (.aload_n 0, 1) := by decide +kernel
theorem dX1_extent_14 : decode cX1_extent 14 = .ok (.getfield 9, 3) := by decide +kernel
theorem dX1_extent_17 : decode cX1_extent 17 = .ok (.iconst 3, 1) := by decide +kernel
theorem dX1_extent_18 : decode cX1_extent 18 = .ok (.if_icmp .ne 29, 3) := by decide +kernel
theorem dX1_extent_21 : decode cX1_extent 21 = .ok (.aload_n 0, 1) := by decide +kernel
theorem dX1_extent_22 : decode cX1_extent 22 = .ok (.getfield 30, 3) := by decide +kernel
theorem dX1_extent_25 : decode cX1_extent 25 = .ok (.ifCond .ne 7, 3) := by decide +kernel
theorem dX1_extent_28 : decode cX1_extent 28 = .ok (.iconst 0, 1) := by decide +kernel
theorem dX1_extent_29 : decode cX1_extent 29 = .ok (.goto 4, 3) := by decide +kernel
theorem dX1_extent_32 : decode cX1_extent 32 = .ok (.iconst 1, 1) := by decide +kernel
theorem dX1_extent_33 : decode cX1_extent 33 = .ok (.aload_n 0, 1) := by decide +kernel
theorem dX1_extent_34 : decode cX1_extent 34 = .ok (.getfield 33, 3) := by decide +kernel
theorem dX1_extent_37 : decode cX1_extent 37 = .ok (.ifCond .ne 7, 3) := by decide +kernel
theorem dX1_extent_40 : decode cX1_extent 40 = .ok (.iconst 0, 1) := by decide +kernel
theorem dX1_extent_41 : decode cX1_extent 41 = .ok (.goto 4, 3) := by decide +kernel
theorem dX1_extent_44 : decode cX1_extent 44 = .ok (.iconst 1, 1) := by decide +kernel
theorem dX1_extent_45 : decode cX1_extent 45 = .ok (.iadd, 1) := by decide +kernel
theorem dX1_extent_46 : decode cX1_extent 46 = .ok (.ireturn, 1) := by decide +kernel
theorem dX1_extent_47 : decode cX1_extent 47 = .ok (.aload_n 0, 1) := by decide +kernel
theorem dX1_extent_48 : decode cX1_extent 48 = .ok (.getfield 21, 3) := by decide +kernel
theorem dX1_extent_51 : decode cX1_extent 51 = .ok (.ireturn, 1) := by decide +kernel
theorem dX1_firstByte_0 : decode cX1_firstByte 0 = .ok (.iload_n 1, 1) := by decide +kernel
theorem dX1_firstByte_1 : decode cX1_firstByte 1 = .ok (.istore_n 3, 1) := by decide +kernel
theorem dX1_firstByte_2 : decode cX1_firstByte 2 = .ok (.iload_n 3, 1) := by decide +kernel
theorem dX1_firstByte_3 : decode cX1_firstByte 3 = .ok (.aload_n 0, 1) := by decide +kernel
theorem dX1_firstByte_4 : decode cX1_firstByte 4 = .ok (.getfield 21, 3) := by decide +kernel
theorem dX1_firstByte_7 : decode cX1_firstByte 7 = .ok (.if_icmp .ge 31, 3) := by decide +kernel
theorem dX1_firstByte_10 : decode cX1_firstByte 10 = .ok (.aload_n 0, 1) := by decide +kernel
theorem dX1_firstByte_11 : decode cX1_firstByte 11 = .ok (.iload_n 3, 1) := by decide +kernel
theorem dX1_firstByte_12 : decode cX1_firstByte 12 = .ok (.bipush 16, 2) := by decide +kernel
theorem dX1_firstByte_14 : decode cX1_firstByte 14 = .ok (.idiv, 1) := by decide +kernel
theorem dX1_firstByte_15 : decode cX1_firstByte 15 = .ok (.invokevirtual 69, 3) := by decide +kernel
theorem dX1_firstByte_18 : decode cX1_firstByte 18 = .ok (.ifCond .eq 7, 3) := by decide +kernel
theorem dX1_firstByte_21 : decode cX1_firstByte 21 = .ok (.iconst 1, 1) := by decide +kernel
theorem dX1_firstByte_22 : decode cX1_firstByte 22 = .ok (.goto 4, 3) := by decide +kernel
theorem dX1_firstByte_25 : decode cX1_firstByte 25 = .ok (.iconst 0, 1) := by decide +kernel
theorem dX1_firstByte_26 : decode cX1_firstByte 26 = .ok (.iload_n 2, 1) := by decide +kernel
theorem dX1_firstByte_27 : decode cX1_firstByte 27 = .ok (.if_icmp .ne 5, 3) := by decide +kernel
theorem dX1_firstByte_30 : decode cX1_firstByte 30 = .ok (.iload_n 3, 1) := by decide +kernel
theorem dX1_firstByte_31 : decode cX1_firstByte 31 = .ok (.ireturn, 1) := by decide +kernel
theorem dX1_firstByte_32 : decode cX1_firstByte 32 = .ok (.iinc 3 1, 3) := by decide +kernel
theorem dX1_firstByte_35 : decode cX1_firstByte 35 = .ok (.goto (-33), 3) := by decide +kernel
theorem dX1_firstByte_38 : decode cX1_firstByte 38 = .ok (.iconst (-1), 1) := by decide +kernel
theorem dX1_firstByte_39 : decode cX1_firstByte 39 = .ok (.ireturn, 1) := by decide +kernel
theorem dX2_init_0 : decode cX2_init 0 = .ok (.aload_n 0, 1) := by decide +kernel
theorem dX2_init_1 : decode cX2_init 1 = .ok (.invokespecial 3, 3) := by decide +kernel
theorem dX2_init_4 : decode cX2_init 4 = .ok (.aload_n 0, 1) := by decide +kernel
theorem dX2_init_5 : decode cX2_init 5 = .ok (.bipush 32, 2) := by decide +kernel
theorem dX2_init_7 : decode cX2_init 7 = .ok (.anewarray 9, 3) := by decide +kernel
theorem dX2_init_10 : decode cX2_init 10 = .ok (.putfield 11, 3) := by decide +kernel
theorem dX2_init_13 : decode cX2_init 13 = .ok (.aload_n 0, 1) := by decide +kernel
theorem dX2_init_14 : decode cX2_init 14 = .ok (.new 9, 3) := by decide +kernel
theorem dX2_init_17 : decode cX2_init 17 = .ok (.dup, 1) := by decide +kernel
theorem dX2_init_18 : decode cX2_init 18 = .ok (.invokespecial 17, 3) := by decide +kernel
theorem dX2_init_21 : decode cX2_init 21 = .ok (.putfield 18, 3) := by decide +kernel
theorem dX2_init_24 : decode cX2_init 24 = .ok (.aload_n 0, 1) := by decide +kernel
theorem dX2_init_25 : decode cX2_init 25 = .ok (.iconst 4, 1) := by decide +kernel
theorem dX2_init_26 : decode cX2_init 26 = .ok (.newarray .int, 2) := by decide +kernel
theorem dX2_init_28 : decode cX2_init 28 = .ok (.putfield 22, 3) := by decide +kernel
theorem dX2_init_31 : decode cX2_init 31 = .ok (.aload_n 0, 1) := by decide +kernel
theorem dX2_init_32 : decode cX2_init 32 = .ok (.sipush 256, 3) := by decide +kernel
theorem dX2_init_35 : decode cX2_init 35 = .ok (.newarray .long, 2) := by decide +kernel
theorem dX2_init_37 : decode cX2_init 37 = .ok (.putfield 26, 3) := by decide +kernel
theorem dX2_init_40 : decode cX2_init 40 = .ok (.aload_n 0, 1) := by decide +kernel
theorem dX2_init_41 : decode cX2_init 41 = .ok (.sipush 128, 3) := by decide +kernel
theorem dX2_init_44 : decode cX2_init 44 = .ok (.newarray .int, 2) := by decide +kernel
theorem dX2_init_46 : decode cX2_init 46 = .ok (.putfield 30, 3) := by decide +kernel
theorem dX2_init_49 : decode cX2_init 49 = .ok (.aload_n 0, 1) := by decide +kernel
theorem dX2_init_50 : decode cX2_init 50 = .ok (.iconst 0, 1) := by decide +kernel
theorem dX2_init_51 : decode cX2_init 51 = .ok (.putfield 33, 3) := by decide +kernel
theorem dX2_init_54 : decode cX2_init 54 = .ok (.aload_n 0, 1) := by decide +kernel
theorem dX2_init_55 : decode cX2_init 55 = .ok (.sipush 128, 3) := by decide +kernel
theorem dX2_init_58 : decode cX2_init 58 = .ok (.newarray .int, 2) := by decide +kernel
theorem dX2_init_60 : decode cX2_init 60 = .ok (.putfield 37, 3) := by decide +kernel
theorem dX2_init_63 : decode cX2_init 63 = .ok (.aload_n 0, 1) := by decide +kernel
theorem dX2_init_64 : decode cX2_init 64 = .ok (.bipush 8, 2) := by decide +kernel
theorem dX2_init_66 : decode cX2_init 66 = .ok (.newarray .int, 2) := by decide +kernel
theorem dX2_init_68 : decode cX2_init 68 = .ok (.putfield 40, 3) := by decide +kernel
theorem dX2_init_71 : decode cX2_init 71 = .ok (.iconst 0, 1) := by decide +kernel
theorem dX2_init_72 : decode cX2_init 72 = .ok (.istore_n 1, 1) := by decide +kernel
theorem dX2_init_73 : decode cX2_init 73 = .ok (.iload_n 1, 1) := by decide +kernel
theorem dX2_init_74 : decode cX2_init 74 = .ok (.aload_n 0, 1) := by decide +kernel
theorem dX2_init_75 : decode cX2_init 75 = .ok (.getfield 11, 3) := by decide +kernel
theorem dX2_init_78 : decode cX2_init 78 = .ok (.arraylength, 1) := by decide +kernel
theorem dX2_init_79 : decode cX2_init 79 = .ok (.if_icmp .ge 22, 3) := by decide +kernel
theorem dX2_init_82 : decode cX2_init 82 = .ok (.aload_n 0, 1) := by decide +kernel
theorem dX2_init_83 : decode cX2_init 83 = .ok (.getfield 11, 3) := by decide +kernel
theorem dX2_init_86 : decode cX2_init 86 = .ok (.iload_n 1, 1) := by decide +kernel
theorem dX2_init_87 : decode cX2_init 87 = .ok (.new 9, 3) := by decide +kernel
theorem dX2_init_90 : decode cX2_init 90 = .ok (.dup, 1) := by decide +kernel
theorem dX2_init_91 : decode cX2_init 91 = .ok (.invokespecial 17, 3) := by decide +kernel
theorem dX2_init_94 : decode cX2_init 94 = .ok (.aastore, 1) := by decide +kernel
theorem dX2_init_95 : decode cX2_init 95 = .ok (.iinc 1 1, 3) := by decide +kernel
theorem dX2_init_98 : decode cX2_init 98 = .ok (.goto (-25), 3) := by decide +kernel
theorem dX2_init_101 : decode cX2_init 101 = .ok (.aload_n 0, 1) := by decide +kernel
theorem dX2_init_102 : decode cX2_init 102 = .ok (.getfield 11, 3) := by decide +kernel
theorem dX2_init_105 : decode cX2_init 105 = .ok (.iconst 0, 1) := by decide +kernel
theorem dX2_init_106 : decode cX2_init 106 = .ok (.aaload, 1) := by decide +kernel
theorem dX2_init_107 : decode cX2_init 107 = .ok (.iconst 2, 1) := by decide +kernel
theorem dX2_init_108 : decode cX2_init 108 = .ok (.putfield 43, 3) := by decide +kernel
theorem dX2_init_111 : decode cX2_init 111 = .ok (.iconst 0, 1) := by decide +kernel
theorem dX2_init_112 : decode cX2_init 112 = .ok (.istore_n 1, 1) := by decide +kernel
theorem dX2_init_113 : decode cX2_init 113 = .ok (.iload_n 1, 1) := by decide +kernel
theorem dX2_init_114 : decode cX2_init 114 = .ok (.aload_n 0, 1) := by decide +kernel
theorem dX2_init_115 : decode cX2_init 115 = .ok (.getfield 22, 3) := by decide +kernel
theorem dX2_init_118 : decode cX2_init 118 = .ok (.arraylength, 1) := by decide +kernel
theorem dX2_init_119 : decode cX2_init 119 = .ok (.if_icmp .ge 17, 3) := by decide +kernel
theorem dX2_init_122 : decode cX2_init 122 = .ok (.aload_n 0, 1) := by decide +kernel
theorem dX2_init_123 : decode cX2_init 123 = .ok (.getfield 22, 3) := by decide +kernel
theorem dX2_init_126 : decode cX2_init 126 = .ok (.iload_n 1, 1) := by decide +kernel
theorem dX2_init_127 : decode cX2_init 127 = .ok (.bipush 120, 2) := by decide +kernel
theorem dX2_init_129 : decode cX2_init 129 = .ok (.iastore, 1) := by decide +kernel
theorem dX2_init_130 : decode cX2_init 130 = .ok (.iinc 1 1, 3) := by decide +kernel
theorem dX2_init_133 : decode cX2_init 133 = .ok (.goto (-20), 3) := by decide +kernel
theorem dX2_init_136 : decode cX2_init 136 = .ok (.return_, 1) := by decide +kernel
theorem dX2_copyFrom_0 : decode cX2_copyFrom 0 = .ok (.iconst 0, 1) := by decide +kernel
theorem dX2_copyFrom_1 : decode cX2_copyFrom 1 = .ok (.istore_n 2, 1) := by decide +kernel
theorem dX2_copyFrom_2 : decode cX2_copyFrom 2 = .ok (.iload_n 2, 1) := by decide +kernel
theorem dX2_copyFrom_3 : decode cX2_copyFrom 3 = .ok (.aload_n 0, 1) := by decide +kernel
theorem dX2_copyFrom_4 : decode cX2_copyFrom 4 = .ok (.getfield 11, 3) := by decide +kernel
theorem dX2_copyFrom_7 : decode cX2_copyFrom 7 = .ok (.arraylength, 1) := by decide +kernel
theorem dX2_copyFrom_8 : decode cX2_copyFrom 8 = .ok (.if_icmp .ge 23, 3) := by decide +kernel
theorem dX2_copyFrom_11 : decode cX2_copyFrom 11 = .ok (.aload_n 0, 1) := by decide +kernel
theorem dX2_copyFrom_12 : decode cX2_copyFrom 12 = .ok (.getfield 11, 3) := by decide +kernel
theorem dX2_copyFrom_15 : decode cX2_copyFrom 15 = .ok (.iload_n 2, 1) := by decide +kernel
theorem dX2_copyFrom_16 : decode cX2_copyFrom 16 = .ok (.aaload, 1) := by decide +kernel
theorem dX2_copyFrom_17 : decode cX2_copyFrom 17 = .ok (.aload_n 1, 1) := by decide +kernel
theorem dX2_copyFrom_18 : decode cX2_copyFrom 18 = .ok (.iload_n 2, 1) := by decide +kernel
theorem dX2_copyFrom_19 : decode cX2_copyFrom 19 = .ok (.invokevirtual 46, 3) := by decide +kernel
theorem dX2_copyFrom_22 : decode cX2_copyFrom 22 = .ok (.invokevirtual 50, 3) := by decide +kernel
theorem dX2_copyFrom_25 : decode cX2_copyFrom 25 = .ok (.iinc 2 1, 3) := by decide +kernel
theorem dX2_copyFrom_28 : decode cX2_copyFrom 28 = .ok (.goto (-26), 3) := by decide +kernel
theorem dX2_copyFrom_31 : decode cX2_copyFrom 31 = .ok (.aload_n 1, 1) := by decide +kernel
theorem dX2_copyFrom_32 : decode cX2_copyFrom 32 = .ok (.getfield 22, 3) := by decide +kernel
theorem dX2_copyFrom_35 : decode cX2_copyFrom 35 = .ok (.iconst 0, 1) := by decide +kernel
theorem dX2_copyFrom_36 : decode cX2_copyFrom 36 = .ok (.aload_n 0, 1) := by decide +kernel
theorem dX2_copyFrom_37 : decode cX2_copyFrom 37 = .ok (.getfield 22, 3) := by decide +kernel
theorem dX2_copyFrom_40 : decode cX2_copyFrom 40 = .ok (.iconst 0, 1) := by decide +kernel
theorem dX2_copyFrom_41 : decode cX2_copyFrom 41 = .ok (.iconst 4, 1) := by decide +kernel
theorem dX2_copyFrom_42 : decode cX2_copyFrom 42 = .ok (.invokestatic 54, 3) := by decide +kernel
theorem dX2_copyFrom_45 : decode cX2_copyFrom 45 = .ok (.aload_n 1, 1) := by decide +kernel
theorem dX2_copyFrom_46 : decode cX2_copyFrom 46 = .ok (.getfield 26, 3) := by decide +kernel
theorem dX2_copyFrom_49 : decode cX2_copyFrom 49 = .ok (.iconst 0, 1) := by decide +kernel
theorem dX2_copyFrom_50 : decode cX2_copyFrom 50 = .ok (.aload_n 0, 1) := by decide +kernel
theorem dX2_copyFrom_51 : decode cX2_copyFrom 51 = .ok (.getfield 26, 3) := by decide +kernel
theorem dX2_copyFrom_54 : decode cX2_copyFrom 54 = .ok (.iconst 0, 1) := by decide +kernel
theorem dX2_copyFrom_55 : decode cX2_copyFrom 55 = .ok (.sipush 256, 3) := by decide +kernel
theorem dX2_copyFrom_58 : decode cX2_copyFrom 58 = .ok (.invokestatic 54, 3) := by decide +kernel
theorem dX2_copyFrom_61 : decode cX2_copyFrom 61 = .ok (.aload_n 1, 1) := by decide +kernel
theorem dX2_copyFrom_62 : decode cX2_copyFrom 62 = .ok (.getfield 30, 3) := by decide +kernel
theorem dX2_copyFrom_65 : decode cX2_copyFrom 65 = .ok (.iconst 0, 1) := by decide +kernel
theorem dX2_copyFrom_66 : decode cX2_copyFrom 66 = .ok (.aload_n 0, 1) := by decide +kernel
theorem dX2_copyFrom_67 : decode cX2_copyFrom 67 = .ok (.getfield 30, 3) := by decide +kernel
theorem dX2_copyFrom_70 : decode cX2_copyFrom 70 = .ok (.iconst 0, 1) := by decide +kernel
theorem dX2_copyFrom_71 : decode cX2_copyFrom 71 = .ok (.sipush 128, 3) := by decide +kernel
theorem dX2_copyFrom_74 : decode cX2_copyFrom 74 = .ok (.invokestatic 54, 3) := by decide +kernel
theorem dX2_copyFrom_77 : decode cX2_copyFrom 77 = .ok (.aload_n 0, 1) := by decide +kernel
theorem dX2_copyFrom_78 : decode cX2_copyFrom 78 = .ok (.aload_n 1, 1) := by decide +kernel
theorem dX2_copyFrom_79 : decode cX2_copyFrom 79 = .ok (.getfield 33, 3) := by decide +kernel
theorem dX2_copyFrom_82 : decode cX2_copyFrom 82 = .ok (.putfield 33, 3) := by decide +kernel
theorem dX2_copyFrom_85 : decode cX2_copyFrom 85 = .ok (.return_, 1) := by decide +kernel
theorem dX2_at_0 : decode cX2_at 0 = .ok (.iload_n 1, 1) := by decide +kernel
theorem dX2_at_1 : decode cX2_at 1 = .ok (.ifCond .lt 21, 3) := by decide +kernel
theorem dX2_at_4 : decode cX2_at 4 = .ok (.iload_n 1, 1) := by decide +kernel
theorem dX2_at_5 : decode cX2_at 5 = .ok (.aload_n 0, 1) := by decide +kernel
theorem dX2_at_6 : decode cX2_at 6 = .ok (.getfield 11, 3) := by decide +kernel
theorem dX2_at_9 : decode cX2_at 9 = .ok (.arraylength, 1) := by decide +kernel
theorem dX2_at_10 : decode cX2_at 10 = .ok (.if_icmp .ge 12, 3) := by decide +kernel
theorem dX2_at_13 : decode cX2_at 13 = .ok (.aload_n 0, 1) := by decide +kernel
theorem dX2_at_14 : decode cX2_at 14 = .ok (.getfield 11, 3) := by decide +kernel
theorem dX2_at_17 : decode cX2_at 17 = .ok (.iload_n 1, 1) := by decide +kernel
theorem dX2_at_18 : decode cX2_at 18 = .ok (.aaload, 1) := by decide +kernel
theorem dX2_at_19 : decode cX2_at 19 = .ok (.goto 7, 3) := by decide +kernel
theorem dX2_at_22 : decode cX2_at 22 = .ok (.aload_n 0, 1) := by decide +kernel
theorem dX2_at_23 : decode cX2_at 23 = .ok (.getfield 18, 3) := by decide +kernel
theorem dX2_at_26 : decode cX2_at 26 = .ok (.areturn, 1) := by decide +kernel
theorem dX2_limitOf_0 : decode cX2_limitOf 0 = .ok (.iload_n 1, 1) := by decide +kernel
theorem dX2_limitOf_1 : decode cX2_limitOf 1 = .ok (.ifCond .lt 21, 3) := by decide +kernel
theorem dX2_limitOf_4 : decode cX2_limitOf 4 = .ok (.iload_n 1, 1) := by decide +kernel
theorem dX2_limitOf_5 : decode cX2_limitOf 5 = .ok (.aload_n 0, 1) := by decide +kernel
theorem dX2_limitOf_6 : decode cX2_limitOf 6 = .ok (.getfield 22, 3) := by decide +kernel
theorem dX2_limitOf_9 : decode cX2_limitOf 9 = .ok (.arraylength, 1) := by decide +kernel
theorem dX2_limitOf_10 : decode cX2_limitOf 10 = .ok (.if_icmp .ge 12, 3) := by decide +kernel
theorem dX2_limitOf_13 : decode cX2_limitOf 13 = .ok (.aload_n 0, 1) := by decide +kernel
theorem dX2_limitOf_14 : decode cX2_limitOf 14 = .ok (.getfield 22, 3) := by decide +kernel
theorem dX2_limitOf_17 : decode cX2_limitOf 17 = .ok (.iload_n 1, 1) := by decide +kernel
theorem dX2_limitOf_18 : decode cX2_limitOf 18 = .ok (.iaload, 1) := by decide +kernel
theorem dX2_limitOf_19 : decode cX2_limitOf 19 = .ok (.goto 4, 3) := by decide +kernel
theorem dX2_limitOf_22 : decode cX2_limitOf 22 = .ok (.iconst 0, 1) := by decide +kernel
theorem dX2_limitOf_23 : decode cX2_limitOf 23 = .ok (.ireturn, 1) := by decide +kernel
theorem dX2_limit_0 : decode cX2_limit 0 = .ok (.iload_n 1, 1) := by decide +kernel
theorem dX2_limit_1 : decode cX2_limit 1 = .ok (.ifCond .lt 19, 3) := by decide +kernel
theorem dX2_limit_4 : decode cX2_limit 4 = .ok (.iload_n 1, 1) := by decide +kernel
theorem dX2_limit_5 : decode cX2_limit 5 = .ok (.aload_n 0, 1) := by decide +kernel
theorem dX2_limit_6 : decode cX2_limit 6 = .ok (.getfield 22, 3) := by decide +kernel
theorem dX2_limit_9 : decode cX2_limit 9 = .ok (.arraylength, 1) := by decide +kernel
theorem dX2_limit_10 : decode cX2_limit 10 = .ok (.if_icmp .ge 10, 3) := by decide +kernel
theorem dX2_limit_13 : decode cX2_limit 13 = .ok (.aload_n 0, 1) := by decide +kernel
theorem dX2_limit_14 : decode cX2_limit 14 = .ok (.getfield 22, 3) := by decide +kernel
theorem dX2_limit_17 : decode cX2_limit 17 = .ok (.iload_n 1, 1) := by decide +kernel
theorem dX2_limit_18 : decode cX2_limit 18 = .ok (.iload_n 2, 1) := by decide +kernel
theorem dX2_limit_19 : decode cX2_limit 19 = .ok (.iastore, 1) := by decide +kernel
theorem dX2_limit_20 : decode cX2_limit 20 = .ok (.return_, 1) := by decide +kernel
theorem dX2_count_0 : decode cX2_count 0 = .ok (.iconst 0, 1) := by decide +kernel
theorem dX2_count_1 : decode cX2_count 1 = .ok (.istore_n 1, 1) := by decide +kernel
theorem dX2_count_2 : decode cX2_count 2 = .ok (.iconst 0, 1) := by decide +kernel
theorem dX2_count_3 : decode cX2_count 3 = .ok (.istore_n 2, 1) := by decide +kernel
theorem dX2_count_4 : decode cX2_count 4 = .ok (.iload_n 2, 1) := by decide +kernel
theorem dX2_count_5 : decode cX2_count 5 = .ok (.aload_n 0, 1) := by decide +kernel
theorem dX2_count_6 : decode cX2_count 6 = .ok (.getfield 11, 3) := by decide +kernel
theorem dX2_count_9 : decode cX2_count 9 = .ok (.arraylength, 1) := by decide +kernel
theorem dX2_count_10 : decode cX2_count 10 = .ok (.if_icmp .ge 24, 3) := by decide +kernel
theorem dX2_count_13 : decode cX2_count 13 = .ok (.aload_n 0, 1) := by decide +kernel
theorem dX2_count_14 : decode cX2_count 14 = .ok (.getfield 11, 3) := by decide +kernel
theorem dX2_count_17 : decode cX2_count 17 = .ok (.iload_n 2, 1) := by decide +kernel
theorem dX2_count_18 : decode cX2_count 18 = .ok (.aaload, 1) := by decide +kernel
theorem dX2_count_19 : decode cX2_count 19 = .ok (.getfield 43, 3) := by decide +kernel
theorem dX2_count_22 : decode cX2_count 22 = .ok (.ifCond .eq 6, 3) := by decide +kernel
theorem dX2_count_25 : decode cX2_count 25 = .ok (.iinc 1 1, 3) := by decide +kernel
theorem dX2_count_28 : decode cX2_count 28 = .ok (.iinc 2 1, 3) := by decide +kernel
theorem dX2_count_31 : decode cX2_count 31 = .ok (.goto (-27), 3) := by decide +kernel
theorem dX2_count_34 : decode cX2_count 34 = .ok (.iload_n 1, 1) := by decide +kernel
theorem dX2_count_35 : decode cX2_count 35 = .ok (.ireturn, 1) := by decide +kernel
theorem dX2_make_0 : decode cX2_make 0 = .ok (.aload_n 0, 1) := by decide +kernel
theorem dX2_make_1 : decode cX2_make 1 = .ok (.invokevirtual 60, 3) := by decide +kernel
theorem dX2_make_4 : decode cX2_make 4 = .ok (.istore 4, 2) := by decide +kernel
theorem dX2_make_6 : decode cX2_make 6 = .ok (.aload_n 0, 1) := by decide +kernel
theorem dX2_make_7 : decode cX2_make 7 = .ok (.iload 4, 2) := by decide +kernel
theorem dX2_make_9 : decode cX2_make 9 = .ok (.invokevirtual 46, 3) := by decide +kernel
theorem dX2_make_12 : decode cX2_make 12 = .ok (.iload_n 1, 1) := by decide +kernel
theorem dX2_make_13 : decode cX2_make 13 = .ok (.aload_n 0, 1) := by decide +kernel
theorem dX2_make_14 : decode cX2_make 14 = .ok (.iload_n 2, 1) := by decide +kernel
theorem dX2_make_15 : decode cX2_make 15 = .ok (.invokevirtual 46, 3) := by decide +kernel
theorem dX2_make_18 : decode cX2_make 18 = .ok (.getfield 64, 3) := by decide +kernel
theorem dX2_make_21 : decode cX2_make 21 = .ok (.invokevirtual 67, 3) := by decide +kernel
theorem dX2_make_24 : decode cX2_make 24 = .ok (.aload_n 0, 1) := by decide +kernel
theorem dX2_make_25 : decode cX2_make 25 = .ok (.iload_n 2, 1) := by decide +kernel
theorem dX2_make_26 : decode cX2_make 26 = .ok (.iload_n 3, 1) := by decide +kernel
theorem dX2_make_27 : decode cX2_make 27 = .ok (.iload 4, 2) := by decide +kernel
theorem dX2_make_29 : decode cX2_make 29 = .ok (.invokevirtual 71, 3) := by decide +kernel
theorem dX2_make_32 : decode cX2_make 32 = .ok (.iload 4, 2) := by decide +kernel
theorem dX2_make_34 : decode cX2_make 34 = .ok (.ireturn, 1) := by decide +kernel
theorem dX2_freeNumber_0 : decode cX2_freeNumber 0 = .ok (.iconst 0, 1) := by decide +kernel
theorem dX2_freeNumber_1 : decode cX2_freeNumber 1 = .ok (.istore_n 1, 1) := by decide +kernel
theorem dX2_freeNumber_2 : decode cX2_freeNumber 2 = .ok (.iload_n 1, 1) := by decide +kernel
theorem dX2_freeNumber_3 : decode cX2_freeNumber 3 = .ok (.aload_n 0, 1) := by decide +kernel
theorem dX2_freeNumber_4 : decode cX2_freeNumber 4 = .ok (.getfield 11, 3) := by decide +kernel
theorem dX2_freeNumber_7 : decode cX2_freeNumber 7 = .ok (.arraylength, 1) := by decide +kernel
theorem dX2_freeNumber_8 : decode cX2_freeNumber 8 = .ok (.if_icmp .ge 23, 3) := by decide +kernel
theorem dX2_freeNumber_11 : decode cX2_freeNumber 11 = .ok (.aload_n 0, 1) := by decide +kernel
theorem dX2_freeNumber_12 : decode cX2_freeNumber 12 = .ok (.getfield 11, 3) := by decide +kernel
theorem dX2_freeNumber_15 : decode cX2_freeNumber 15 = .ok (.iload_n 1, 1) := by decide +kernel
theorem dX2_freeNumber_16 : decode cX2_freeNumber 16 = .ok (.aaload, 1) := by decide +kernel
theorem dX2_freeNumber_17 : decode cX2_freeNumber 17 = .ok (.getfield 43, 3) := by decide +kernel
theorem dX2_freeNumber_20 : decode cX2_freeNumber 20 = .ok (.ifCond .ne 5, 3) := by decide +kernel
theorem dX2_freeNumber_23 : decode cX2_freeNumber 23 = .ok (.iload_n 1, 1) := by decide +kernel
theorem dX2_freeNumber_24 : decode cX2_freeNumber 24 = .ok (.ireturn, 1) := by decide +kernel
theorem dX2_freeNumber_25 : decode cX2_freeNumber 25 = .ok (.iinc 1 1, 3) := by decide +kernel
theorem dX2_freeNumber_28 : decode cX2_freeNumber 28 = .ok (.goto (-26), 3) := by decide +kernel
theorem dX2_freeNumber_31 : decode cX2_freeNumber 31 = .ok (.iconst (-1), 1) := by decide +kernel
theorem dX2_freeNumber_32 : decode cX2_freeNumber 32 = .ok (.ireturn, 1) := by decide +kernel
theorem dX2_attach_0 : decode cX2_attach 0 = .ok (.aload_n 0, 1) := by decide +kernel
theorem dX2_attach_1 : decode cX2_attach 1 = .ok (.iload_n 1, 1) := by decide +kernel
theorem dX2_attach_2 : decode cX2_attach 2 = .ok (.invokevirtual 46, 3) := by decide +kernel
theorem dX2_attach_5 : decode cX2_attach 5 = .ok (.iload_n 2, 1) := by decide +kernel
theorem dX2_attach_6 : decode cX2_attach 6 = .ok (.iload_n 3, 1) := by decide +kernel
theorem dX2_attach_7 : decode cX2_attach 7 = .ok (.invokevirtual 75, 3) := by decide +kernel
theorem dX2_attach_10 : decode cX2_attach 10 = .ok (.aload_n 0, 1) := by decide +kernel
theorem dX2_attach_11 : decode cX2_attach 11 = .ok (.iload_n 3, 1) := by decide +kernel
theorem dX2_attach_12 : decode cX2_attach 12 = .ok (.invokevirtual 46, 3) := by decide +kernel
theorem dX2_attach_15 : decode cX2_attach 15 = .ok (.astore 4, 2) := by decide +kernel
theorem dX2_attach_17 : decode cX2_attach 17 = .ok (.aload 4, 2) := by decide +kernel
theorem dX2_attach_19 : decode cX2_attach 19 = .ok (.dup, 1) := by decide +kernel
theorem dX2_attach_20 : decode cX2_attach 20 = .ok (.getfield 78, 3) := by decide +kernel
theorem dX2_attach_23 : decode cX2_attach 23 = .ok (.iconst 1, 1) := by decide +kernel
theorem dX2_attach_24 : decode cX2_attach 24 = .ok (.iadd, 1) := by decide +kernel
theorem dX2_attach_25 : decode cX2_attach 25 = .ok (.putfield 78, 3) := by decide +kernel
theorem dX2_attach_28 : decode cX2_attach 28 = .ok (.aload 4, 2) := by decide +kernel
theorem dX2_attach_30 : decode cX2_attach 30 = .ok (.getfield 43, 3) := by decide +kernel
theorem dX2_attach_33 : decode cX2_attach 33 = .ok (.iconst 2, 1) := by decide +kernel
theorem dX2_attach_34 : decode cX2_attach 34 = .ok (.if_icmp .ne 9, 3) := by decide +kernel
theorem dX2_attach_37 : decode cX2_attach 37 = .ok (.aload 4, 2) := by decide +kernel
theorem dX2_attach_39 : decode cX2_attach 39 = .ok (.iload_n 1, 1) := by decide +kernel
theorem dX2_attach_40 : decode cX2_attach 40 = .ok (.putfield 81, 3) := by decide +kernel
theorem dX2_attach_43 : decode cX2_attach 43 = .ok (.return_, 1) := by decide +kernel
theorem dX2_detach_0 : decode cX2_detach 0 = .ok (.aload_n 0, 1) := by decide +kernel
theorem dX2_detach_1 : decode cX2_detach 1 = .ok (.iload_n 1, 1) := by decide +kernel
theorem dX2_detach_2 : decode cX2_detach 2 = .ok (.invokevirtual 46, 3) := by decide +kernel
theorem dX2_detach_5 : decode cX2_detach 5 = .ok (.astore_n 3, 1) := by decide +kernel
theorem dX2_detach_6 : decode cX2_detach 6 = .ok (.aload_n 3, 1) := by decide +kernel
theorem dX2_detach_7 : decode cX2_detach 7 = .ok (.iload_n 2, 1) := by decide +kernel
theorem dX2_detach_8 : decode cX2_detach 8 = .ok (.invokevirtual 84, 3) := by decide +kernel
theorem dX2_detach_11 : decode cX2_detach 11 = .ok (.istore 4, 2) := by decide +kernel
theorem dX2_detach_13 : decode cX2_detach 13 = .ok (.aload_n 3, 1) := by decide +kernel
theorem dX2_detach_14 : decode cX2_detach 14 = .ok (.iload 4, 2) := by decide +kernel
theorem dX2_detach_16 : decode cX2_detach 16 = .ok (.invokevirtual 88, 3) := by decide +kernel
theorem dX2_detach_19 : decode cX2_detach 19 = .ok (.istore 5, 2) := by decide +kernel
theorem dX2_detach_21 : decode cX2_detach 21 = .ok (.iload 5, 2) := by decide +kernel
theorem dX2_detach_23 : decode cX2_detach 23 = .ok (.iconst (-1), 1) := by decide +kernel
theorem dX2_detach_24 : decode cX2_detach 24 = .ok (.if_icmp .eq 24, 3) := by decide +kernel
theorem dX2_detach_27 : decode cX2_detach 27 = .ok (.aload_n 3, 1) := by decide +kernel
theorem dX2_detach_28 : decode cX2_detach 28 = .ok (.iload 4, 2) := by decide +kernel
theorem dX2_detach_30 : decode cX2_detach 30 = .ok (.invokevirtual 91, 3) := by decide +kernel
theorem dX2_detach_33 : decode cX2_detach 33 = .ok (.aload_n 0, 1) := by decide +kernel
theorem dX2_detach_34 : decode cX2_detach 34 = .ok (.iload 5, 2) := by decide +kernel
theorem dX2_detach_36 : decode cX2_detach 36 = .ok (.invokevirtual 46, 3) := by decide +kernel
theorem dX2_detach_39 : decode cX2_detach 39 = .ok (.dup, 1) := by decide +kernel
theorem dX2_detach_40 : decode cX2_detach 40 = .ok (.getfield 78, 3) := by decide +kernel
theorem dX2_detach_43 : decode cX2_detach 43 = .ok (.iconst 1, 1) := by decide +kernel
theorem dX2_detach_44 : decode cX2_detach 44 = .ok (.isub, 1) := by decide +kernel
theorem dX2_detach_45 : decode cX2_detach 45 = .ok (.putfield 78, 3) := by decide +kernel
theorem dX2_detach_48 : decode cX2_detach 48 = .ok (.iload 5, 2) := by decide +kernel
theorem dX2_detach_50 : decode cX2_detach 50 = .ok (.ireturn, 1) := by decide +kernel
theorem dX2_turn_0 : decode cX2_turn 0 = .ok (.aload_n 0, 1) := by decide +kernel
theorem dX2_turn_1 : decode cX2_turn 1 = .ok (.iload_n 1, 1) := by decide +kernel
theorem dX2_turn_2 : decode cX2_turn 2 = .ok (.invokevirtual 46, 3) := by decide +kernel
theorem dX2_turn_5 : decode cX2_turn 5 = .ok (.astore 4, 2) := by decide +kernel
theorem dX2_turn_7 : decode cX2_turn 7 = .ok (.aload 4, 2) := by decide +kernel
theorem dX2_turn_9 : decode cX2_turn 9 = .ok (.aload 4, 2) := by decide +kernel
theorem dX2_turn_11 : decode cX2_turn 11 = .ok (.iload_n 2, 1) := by decide +kernel
theorem dX2_turn_12 : decode cX2_turn 12 = .ok (.invokevirtual 84, 3) := by decide +kernel
theorem dX2_turn_15 : decode cX2_turn 15 = .ok (.iload_n 3, 1) := by decide +kernel
theorem dX2_turn_16 : decode cX2_turn 16 = .ok (.invokevirtual 95, 3) := by decide +kernel
theorem dX2_turn_19 : decode cX2_turn 19 = .ok (.aload_n 0, 1) := by decide +kernel
theorem dX2_turn_20 : decode cX2_turn 20 = .ok (.iload_n 3, 1) := by decide +kernel
theorem dX2_turn_21 : decode cX2_turn 21 = .ok (.invokevirtual 46, 3) := by decide +kernel
theorem dX2_turn_24 : decode cX2_turn 24 = .ok (.getfield 43, 3) := by decide +kernel
theorem dX2_turn_27 : decode cX2_turn 27 = .ok (.iconst 2, 1) := by decide +kernel
theorem dX2_turn_28 : decode cX2_turn 28 = .ok (.if_icmp .ne 12, 3) := by decide +kernel
theorem dX2_turn_31 : decode cX2_turn 31 = .ok (.aload_n 0, 1) := by decide +kernel
theorem dX2_turn_32 : decode cX2_turn 32 = .ok (.iload_n 3, 1) := by decide +kernel
theorem dX2_turn_33 : decode cX2_turn 33 = .ok (.invokevirtual 46, 3) := by decide +kernel
theorem dX2_turn_36 : decode cX2_turn 36 = .ok (.iload_n 1, 1) := by decide +kernel
theorem dX2_turn_37 : decode cX2_turn 37 = .ok (.putfield 81, 3) := by decide +kernel
theorem dX2_turn_40 : decode cX2_turn 40 = .ok (.return_, 1) := by decide +kernel
theorem dX2_drop_0 : decode cX2_drop 0 = .ok (.aload_n 0, 1) := by decide +kernel
theorem dX2_drop_1 : decode cX2_drop 1 = .ok (.iload_n 1, 1) := by decide +kernel
theorem dX2_drop_2 : decode cX2_drop 2 = .ok (.invokevirtual 46, 3) := by decide +kernel
theorem dX2_drop_5 : decode cX2_drop 5 = .ok (.astore_n 2, 1) := by decide +kernel
theorem dX2_drop_6 : decode cX2_drop 6 = .ok (.iconst 0, 1) := by decide +kernel
theorem dX2_drop_7 : decode cX2_drop 7 = .ok (.istore_n 3, 1) := by decide +kernel
theorem dX2_drop_8 : decode cX2_drop 8 = .ok (.iload_n 3, 1) := by decide +kernel
theorem dX2_drop_9 : decode cX2_drop 9 = .ok (.bipush 20, 2) := by decide +kernel
theorem dX2_drop_11 : decode cX2_drop 11 = .ok (.if_icmp .ge 16, 3) := by decide +kernel
theorem dX2_drop_14 : decode cX2_drop 14 = .ok (.aload_n 0, 1) := by decide +kernel
theorem dX2_drop_15 : decode cX2_drop 15 = .ok (.aload_n 2, 1) := by decide +kernel
theorem dX2_drop_16 : decode cX2_drop 16 = .ok (.iload_n 3, 1) := by decide +kernel
theorem dX2_drop_17 : decode cX2_drop 17 = .ok (.iconst 0, 1) := by decide +kernel
theorem dX2_drop_18 : decode cX2_drop 18 = .ok (.invokevirtual 98, 3) := by decide +kernel
theorem dX2_drop_21 : decode cX2_drop 21 = .ok (.iinc 3 1, 3) := by decide +kernel
theorem dX2_drop_24 : decode cX2_drop 24 = .ok (.goto (-16), 3) := by decide +kernel
theorem dX2_drop_27 : decode cX2_drop 27 = .ok (.aload_n 2, 1) := by decide +kernel
theorem dX2_drop_28 : decode cX2_drop 28 = .ok (.iconst 0, 1) := by decide +kernel
theorem dX2_drop_29 : decode cX2_drop 29 = .ok (.iconst 0, 1) := by decide +kernel
theorem dX2_drop_30 : decode cX2_drop 30 = .ok (.invokevirtual 67, 3) := by decide +kernel
theorem dX2_drop_33 : decode cX2_drop 33 = .ok (.return_, 1) := by decide +kernel
theorem dX2_dropForsaken_0 : decode cX2_dropForsaken 0 = .ok (.iconst 0, 1) := by decide +kernel
theorem dX2_dropForsaken_1 : decode cX2_dropForsaken 1 = .ok (.istore_n 1, 1) := by decide +kernel
theorem dX2_dropForsaken_2 : decode cX2_dropForsaken 2 = .ok (.iconst 0, 1) := by decide +kernel
theorem dX2_dropForsaken_3 : decode cX2_dropForsaken 3 = .ok (.istore_n 2, 1) := by decide +kernel
theorem dX2_dropForsaken_4 : decode cX2_dropForsaken 4 = .ok (.iload_n 2, 1) := by decide +kernel
theorem dX2_dropForsaken_5 : decode cX2_dropForsaken 5 = .ok (.aload_n 0, 1) := by decide +kernel
theorem dX2_dropForsaken_6 : decode cX2_dropForsaken 6 = .ok (.getfield 11, 3) := by decide +kernel
theorem dX2_dropForsaken_9 : decode cX2_dropForsaken 9 = .ok (.arraylength, 1) := by decide +kernel
theorem dX2_dropForsaken_10 : decode cX2_dropForsaken 10 = .ok (.if_icmp .ge 29, 3) := by decide +kernel
theorem dX2_dropForsaken_13 : decode cX2_dropForsaken 13 = .ok (.aload_n 0, 1) := by decide +kernel
theorem dX2_dropForsaken_14 : decode cX2_dropForsaken 14 = .ok (.getfield 11, 3) := by decide +kernel
theorem dX2_dropForsaken_17 : decode cX2_dropForsaken 17 = .ok (.iload_n 2, 1) := by decide +kernel
theorem dX2_dropForsaken_18 : decode cX2_dropForsaken 18 = .ok (.aaload, 1) := by decide +kernel
theorem dX2_dropForsaken_19 : decode cX2_dropForsaken 19 = .ok (.invokevirtual 102, 3) := by decide +kernel
theorem dX2_dropForsaken_22 : decode cX2_dropForsaken 22 = .ok (.ifCond .eq 11, 3) := by decide +kernel
theorem dX2_dropForsaken_25 : decode cX2_dropForsaken 25 = .ok (.aload_n 0, 1) := by decide +kernel
theorem dX2_dropForsaken_26 : decode cX2_dropForsaken 26 = .ok (.iload_n 2, 1) := by decide +kernel
theorem dX2_dropForsaken_27 : decode cX2_dropForsaken 27 = .ok (.invokevirtual 106, 3) := by decide +kernel
theorem dX2_dropForsaken_30 : decode cX2_dropForsaken 30 = .ok (.iinc 1 1, 3) := by decide +kernel
theorem dX2_dropForsaken_33 : decode cX2_dropForsaken 33 = .ok (.iinc 2 1, 3) := by decide +kernel
theorem dX2_dropForsaken_36 : decode cX2_dropForsaken 36 = .ok (.goto (-32), 3) := by decide +kernel
theorem dX2_dropForsaken_39 : decode cX2_dropForsaken 39 = .ok (.iload_n 1, 1) := by decide +kernel
theorem dX2_dropForsaken_40 : decode cX2_dropForsaken 40 = .ok (.ireturn, 1) := by decide +kernel
theorem dX2_isBlock_0 : decode cX2_isBlock 0 = .ok (.iload_n 0, 1) := by decide +kernel
theorem dX2_isBlock_1 : decode cX2_isBlock 1 = .ok (.ifCond .le 14, 3) := by decide +kernel
theorem dX2_isBlock_4 : decode cX2_isBlock 4 = .ok (.iload_n 0, 1) := by decide +kernel
theorem dX2_isBlock_5 : decode cX2_isBlock 5 = .ok (.sipush 128, 3) := by decide +kernel
theorem dX2_isBlock_8 : decode cX2_isBlock 8 = .ok (.if_icmp .ge 7, 3) := by decide +kernel
theorem dX2_isBlock_11 : decode cX2_isBlock 11 = .ok (.iconst 1, 1) := by decide +kernel
theorem dX2_isBlock_12 : decode cX2_isBlock 12 = .ok (.goto 4, 3) := by decide +kernel
theorem dX2_isBlock_15 : decode cX2_isBlock 15 = .ok (.iconst 0, 1) := by decide +kernel
theorem dX2_isBlock_16 : decode cX2_isBlock 16 = .ok (.ireturn, 1) := by decide +kernel
theorem dX2_isShared_0 : decode cX2_isShared 0 = .ok (.iload_n 1, 1) := by decide +kernel
theorem dX2_isShared_1 : decode cX2_isShared 1 = .ok (.invokestatic 109, 3) := by decide +kernel
theorem dX2_isShared_4 : decode cX2_isShared 4 = .ok (.ifCond .eq 17, 3) := by decide +kernel
theorem dX2_isShared_7 : decode cX2_isShared 7 = .ok (.aload_n 0, 1) := by decide +kernel
theorem dX2_isShared_8 : decode cX2_isShared 8 = .ok (.getfield 30, 3) := by decide +kernel
theorem dX2_isShared_11 : decode cX2_isShared 11 = .ok (.iload_n 1, 1) := by decide +kernel
theorem dX2_isShared_12 : decode cX2_isShared 12 = .ok (.iaload, 1) := by decide +kernel
theorem dX2_isShared_13 : decode cX2_isShared 13 = .ok (.iconst 1, 1) := by decide +kernel
theorem dX2_isShared_14 : decode cX2_isShared 14 = .ok (.if_icmp .le 7, 3) := by decide +kernel
theorem dX2_isShared_17 : decode cX2_isShared 17 = .ok (.iconst 1, 1) := by decide +kernel
theorem dX2_isShared_18 : decode cX2_isShared 18 = .ok (.goto 4, 3) := by decide +kernel
theorem dX2_isShared_21 : decode cX2_isShared 21 = .ok (.iconst 0, 1) := by decide +kernel
theorem dX2_isShared_22 : decode cX2_isShared 22 = .ok (.ireturn, 1) := by decide +kernel
theorem dX2_put_0 : decode cX2_put 0 = .ok (.aload_n 1, 1) := by decide +kernel
theorem dX2_put_1 : decode cX2_put 1 = .ok (.iload_n 2, 1) := by decide +kernel
theorem dX2_put_2 : decode cX2_put 2 = .ok (.invokevirtual 113, 3) := by decide +kernel
theorem dX2_put_5 : decode cX2_put 5 = .ok (.istore 4, 2) := by decide +kernel
theorem dX2_put_7 : decode cX2_put 7 = .ok (.iload 4, 2) := by decide +kernel
theorem dX2_put_9 : decode cX2_put 9 = .ok (.iload_n 3, 1) := by decide +kernel
theorem dX2_put_10 : decode cX2_put 10 = .ok (.if_icmp .eq 16, 3) := by decide +kernel
theorem dX2_put_13 : decode cX2_put 13 = .ok (.iload_n 2, 1) := by decide +kernel
theorem dX2_put_14 : decode cX2_put 14 = .ok (.ifCond .lt 12, 3) := by decide +kernel
theorem dX2_put_17 : decode cX2_put 17 = .ok (.iload_n 2, 1) := by decide +kernel
theorem dX2_put_18 : decode cX2_put 18 = .ok (.aload_n 1, 1) := by decide +kernel
theorem dX2_put_19 : decode cX2_put 19 = .ok (.getfield 116, 3) := by decide +kernel
theorem dX2_put_22 : decode cX2_put 22 = .ok (.arraylength, 1) := by decide +kernel
theorem dX2_put_23 : decode cX2_put 23 = .ok (.if_icmp .lt 4, 3) := by decide +kernel
theorem dX2_put_26 : decode cX2_put 26 = .ok (.return_, 1) := by decide +kernel
theorem dX2_put_27 : decode cX2_put 27 = .ok (.iload 4, 2) := by decide +kernel
theorem dX2_put_29 : decode cX2_put 29 = .ok (.invokestatic 109, 3) := by decide +kernel
theorem dX2_put_32 : decode cX2_put 32 = .ok (.ifCond .eq 14, 3) := by decide +kernel
theorem dX2_put_35 : decode cX2_put 35 = .ok (.aload_n 0, 1) := by decide +kernel
theorem dX2_put_36 : decode cX2_put 36 = .ok (.getfield 30, 3) := by decide +kernel
theorem dX2_put_39 : decode cX2_put 39 = .ok (.iload 4, 2) := by decide +kernel
theorem dX2_put_41 : decode cX2_put 41 = .ok (.dup2, 1) := by decide +kernel
theorem dX2_put_42 : decode cX2_put 42 = .ok (.iaload, 1) := by decide +kernel
theorem dX2_put_43 : decode cX2_put 43 = .ok (.iconst 1, 1) := by decide +kernel
theorem dX2_put_44 : decode cX2_put 44 = .ok (.isub, 1) := by decide +kernel
theorem dX2_put_45 : decode cX2_put 45 = .ok (.iastore, 1) := by decide +kernel
theorem dX2_put_46 : decode cX2_put 46 = .ok (.iload_n 3, 1) := by decide +kernel
theorem dX2_put_47 : decode cX2_put 47 = .ok (.invokestatic 109, 3) := by decide +kernel
theorem dX2_put_50 : decode cX2_put 50 = .ok (.ifCond .eq 13, 3) := by decide +kernel
theorem dX2_put_53 : decode cX2_put 53 = .ok (.aload_n 0, 1) := by decide +kernel
theorem dX2_put_54 : decode cX2_put 54 = .ok (.getfield 30, 3) := by decide +kernel
theorem dX2_put_57 : decode cX2_put 57 = .ok (.iload_n 3, 1) := by decide +kernel
theorem dX2_put_58 : decode cX2_put 58 = .ok (.dup2, 1) := by decide +kernel
theorem dX2_put_59 : decode cX2_put 59 = .ok (.iaload, 1) := by decide +kernel
theorem dX2_put_60 : decode cX2_put 60 = .ok (.iconst 1, 1) := by decide +kernel
theorem dX2_put_61 : decode cX2_put 61 = .ok (.iadd, 1) := by decide +kernel
theorem dX2_put_62 : decode cX2_put 62 = .ok (.iastore, 1) := by decide +kernel
theorem dX2_put_63 : decode cX2_put 63 = .ok (.aload_n 1, 1) := by decide +kernel
theorem dX2_put_64 : decode cX2_put 64 = .ok (.getfield 116, 3) := by decide +kernel
theorem dX2_put_67 : decode cX2_put 67 = .ok (.iload_n 2, 1) := by decide +kernel
theorem dX2_put_68 : decode cX2_put 68 = .ok (.iload_n 3, 1) := by decide +kernel
theorem dX2_put_69 : decode cX2_put 69 = .ok (.iastore, 1) := by decide +kernel
theorem dX2_put_70 : decode cX2_put 70 = .ok (.return_, 1) := by decide +kernel
theorem dX2_ownBlock_0 : decode cX2_ownBlock 0 = .ok (.aload_n 1, 1) := by decide +kernel
theorem dX2_ownBlock_1 : decode cX2_ownBlock 1 = .ok (.iload_n 2, 1) := by decide +kernel
theorem dX2_ownBlock_2 : decode cX2_ownBlock 2 = .ok (.invokevirtual 113, 3) := by decide +kernel
theorem dX2_ownBlock_5 : decode cX2_ownBlock 5 = .ok (.istore_n 3, 1) := by decide +kernel
theorem dX2_ownBlock_6 : decode cX2_ownBlock 6 = .ok (.iload_n 3, 1) := by decide +kernel
theorem dX2_ownBlock_7 : decode cX2_ownBlock 7 = .ok (.invokestatic 109, 3) := by decide +kernel
theorem dX2_ownBlock_10 : decode cX2_ownBlock 10 = .ok (.ifCond .eq 13, 3) := by decide +kernel
theorem dX2_ownBlock_13 : decode cX2_ownBlock 13 = .ok (.aload_n 0, 1) := by decide +kernel
theorem dX2_ownBlock_14 : decode cX2_ownBlock 14 = .ok (.iload_n 3, 1) := by decide +kernel
theorem dX2_ownBlock_15 : decode cX2_ownBlock 15 = .ok (.invokevirtual 119, 3) := by decide +kernel
theorem dX2_ownBlock_18 : decode cX2_ownBlock 18 = .ok (.ifCond .ne 5, 3) := by decide +kernel
theorem dX2_ownBlock_21 : decode cX2_ownBlock 21 = .ok (.iload_n 3, 1) := by decide +kernel
theorem dX2_ownBlock_22 : decode cX2_ownBlock 22 = .ok (.ireturn, 1) := by decide +kernel
theorem dX2_ownBlock_23 : decode cX2_ownBlock 23 = .ok (.aload_n 0, 1) := by decide +kernel
theorem dX2_ownBlock_24 : decode cX2_ownBlock 24 = .ok (.invokevirtual 122, 3) := by decide +kernel
theorem dX2_ownBlock_27 : decode cX2_ownBlock 27 = .ok (.istore 4, 2) := by decide +kernel
theorem dX2_ownBlock_29 : decode cX2_ownBlock 29 = .ok (.iload 4, 2) := by decide +kernel
theorem dX2_ownBlock_31 : decode cX2_ownBlock 31 = .ok (.invokestatic 109, 3) := by decide +kernel
theorem dX2_ownBlock_34 : decode cX2_ownBlock 34 = .ok (.ifCond .eq 41, 3) := by decide +kernel
theorem dX2_ownBlock_37 : decode cX2_ownBlock 37 = .ok (.iload_n 3, 1) := by decide +kernel
theorem dX2_ownBlock_38 : decode cX2_ownBlock 38 = .ok (.ifCond .lt 37, 3) := by decide +kernel
theorem dX2_ownBlock_41 : decode cX2_ownBlock 41 = .ok (.iload_n 3, 1) := by decide +kernel
theorem dX2_ownBlock_42 : decode cX2_ownBlock 42 = .ok (.sipush 128, 3) := by decide +kernel
theorem dX2_ownBlock_45 : decode cX2_ownBlock 45 = .ok (.if_icmp .ge 30, 3) := by decide +kernel
theorem dX2_ownBlock_48 : decode cX2_ownBlock 48 = .ok (.aload_n 0, 1) := by decide +kernel
theorem dX2_ownBlock_49 : decode cX2_ownBlock 49 = .ok (.getfield 26, 3) := by decide +kernel
theorem dX2_ownBlock_52 : decode cX2_ownBlock 52 = .ok (.iload_n 3, 1) := by decide +kernel
theorem dX2_ownBlock_53 : decode cX2_ownBlock 53 = .ok (.iconst 2, 1) := by decide +kernel
theorem dX2_ownBlock_54 : decode cX2_ownBlock 54 = .ok (.imul, 1) := by decide +kernel
theorem dX2_ownBlock_55 : decode cX2_ownBlock 55 = .ok (.aload_n 0, 1) := by decide +kernel
theorem dX2_ownBlock_56 : decode cX2_ownBlock 56 = .ok (.getfield 26, 3) := by decide +kernel
theorem dX2_ownBlock_59 : decode cX2_ownBlock 59 = .ok (.iload 4, 2) := by decide +kernel
theorem dX2_ownBlock_61 : decode cX2_ownBlock 61 = .ok (.iconst 2, 1) := by decide +kernel
theorem dX2_ownBlock_62 : decode cX2_ownBlock 62 = .ok (.imul, 1) := by decide +kernel
theorem dX2_ownBlock_63 : decode cX2_ownBlock 63 = .ok (.iconst 2, 1) := by decide +kernel
theorem dX2_ownBlock_64 : decode cX2_ownBlock 64 = .ok (.invokestatic 54, 3) := by decide +kernel
theorem dX2_ownBlock_67 : decode cX2_ownBlock 67 = .ok (.aload_n 0, 1) := by decide +kernel
theorem dX2_ownBlock_68 : decode cX2_ownBlock 68 = .ok (.aload_n 1, 1) := by decide +kernel
theorem dX2_ownBlock_69 : decode cX2_ownBlock 69 = .ok (.iload_n 2, 1) := by decide +kernel
theorem dX2_ownBlock_70 : decode cX2_ownBlock 70 = .ok (.iload 4, 2) := by decide +kernel
theorem dX2_ownBlock_72 : decode cX2_ownBlock 72 = .ok (.invokevirtual 98, 3) := by decide +kernel
theorem dX2_ownBlock_75 : decode cX2_ownBlock 75 = .ok (.iload 4, 2) := by decide +kernel
theorem dX2_ownBlock_77 : decode cX2_ownBlock 77 = .ok (.ireturn, 1) := by decide +kernel
theorem dX2_freeBlock_0 : decode cX2_freeBlock 0 = .ok (.iconst 1, 1) := by decide +kernel
theorem dX2_freeBlock_1 : decode cX2_freeBlock 1 = .ok (.istore_n 1, 1) := by decide +kernel
theorem dX2_freeBlock_2 : decode cX2_freeBlock 2 = .ok (.iload_n 1, 1) := by decide +kernel
theorem dX2_freeBlock_3 : decode cX2_freeBlock 3 = .ok (.aload_n 0, 1) := by decide +kernel
theorem dX2_freeBlock_4 : decode cX2_freeBlock 4 = .ok (.getfield 30, 3) := by decide +kernel
theorem dX2_freeBlock_7 : decode cX2_freeBlock 7 = .ok (.arraylength, 1) := by decide +kernel
theorem dX2_freeBlock_8 : decode cX2_freeBlock 8 = .ok (.if_icmp .ge 20, 3) := by decide +kernel
theorem dX2_freeBlock_11 : decode cX2_freeBlock 11 = .ok (.aload_n 0, 1) := by decide +kernel
theorem dX2_freeBlock_12 : decode cX2_freeBlock 12 = .ok (.getfield 30, 3) := by decide +kernel
theorem dX2_freeBlock_15 : decode cX2_freeBlock 15 = .ok (.iload_n 1, 1) := by decide +kernel
theorem dX2_freeBlock_16 : decode cX2_freeBlock 16 = .ok (.iaload, 1) := by decide +kernel
theorem dX2_freeBlock_17 : decode cX2_freeBlock 17 = .ok (.ifCond .ne 5, 3) := by decide +kernel
theorem dX2_freeBlock_20 : decode cX2_freeBlock 20 = .ok (.iload_n 1, 1) := by decide +kernel
theorem dX2_freeBlock_21 : decode cX2_freeBlock 21 = .ok (.ireturn, 1) := by decide +kernel
theorem dX2_freeBlock_22 : decode cX2_freeBlock 22 = .ok (.iinc 1 1, 3) := by decide +kernel
theorem dX2_freeBlock_25 : decode cX2_freeBlock 25 = .ok (.goto (-23), 3) := by decide +kernel
theorem dX2_freeBlock_28 : decode cX2_freeBlock 28 = .ok (.iconst 0, 1) := by decide +kernel
theorem dX2_freeBlock_29 : decode cX2_freeBlock 29 = .ok (.ireturn, 1) := by decide +kernel
theorem dX2_wordOf_0 : decode cX2_wordOf 0 = .ok (.iload_n 0, 1) := by decide +kernel
theorem dX2_wordOf_1 : decode cX2_wordOf 1 = .ok (.iconst 2, 1) := by decide +kernel
theorem dX2_wordOf_2 : decode cX2_wordOf 2 = .ok (.imul, 1) := by decide +kernel
theorem dX2_wordOf_3 : decode cX2_wordOf 3 = .ok (.iload_n 1, 1) := by decide +kernel
theorem dX2_wordOf_4 : decode cX2_wordOf 4 = .ok (.bipush 16, 2) := by decide +kernel
theorem dX2_wordOf_6 : decode cX2_wordOf 6 = .ok (.irem, 1) := by decide +kernel
theorem dX2_wordOf_7 : decode cX2_wordOf 7 = .ok (.bipush 8, 2) := by decide +kernel
theorem dX2_wordOf_9 : decode cX2_wordOf 9 = .ok (.idiv, 1) := by decide +kernel
theorem dX2_wordOf_10 : decode cX2_wordOf 10 = .ok (.iadd, 1) := by decide +kernel
theorem dX2_wordOf_11 : decode cX2_wordOf 11 = .ok (.ireturn, 1) := by decide +kernel
theorem dX2_shiftOf_0 : decode cX2_shiftOf 0 = .ok (.iload_n 0, 1) := by decide +kernel
theorem dX2_shiftOf_1 : decode cX2_shiftOf 1 = .ok (.bipush 8, 2) := by decide +kernel
theorem dX2_shiftOf_3 : decode cX2_shiftOf 3 = .ok (.irem, 1) := by decide +kernel
theorem dX2_shiftOf_4 : decode cX2_shiftOf 4 = .ok (.bipush 8, 2) := by decide +kernel
theorem dX2_shiftOf_6 : decode cX2_shiftOf 6 = .ok (.imul, 1) := by decide +kernel
theorem dX2_shiftOf_7 : decode cX2_shiftOf 7 = .ok (.ireturn, 1) := by decide +kernel
theorem dX2_byteOf_0 : decode cX2_byteOf 0 = .ok (.aload_n 1, 1) := by decide +kernel
theorem dX2_byteOf_1 : decode cX2_byteOf 1 = .ok (.iload_n 2, 1) := by decide +kernel
theorem dX2_byteOf_2 : decode cX2_byteOf 2 = .ok (.bipush 16, 2) := by decide +kernel
theorem dX2_byteOf_4 : decode cX2_byteOf 4 = .ok (.idiv, 1) := by decide +kernel
theorem dX2_byteOf_5 : decode cX2_byteOf 5 = .ok (.invokevirtual 113, 3) := by decide +kernel
theorem dX2_byteOf_8 : decode cX2_byteOf 8 = .ok (.iload_n 2, 1) := by decide +kernel
theorem dX2_byteOf_9 : decode cX2_byteOf 9 = .ok (.invokestatic 125, 3) := by decide +kernel
theorem dX2_byteOf_12 : decode cX2_byteOf 12 = .ok (.istore_n 3, 1) := by decide +kernel
theorem dX2_byteOf_13 : decode cX2_byteOf 13 = .ok (.iload_n 3, 1) := by decide +kernel
theorem dX2_byteOf_14 : decode cX2_byteOf 14 = .ok (.ifCond .lt 31, 3) := by decide +kernel
theorem dX2_byteOf_17 : decode cX2_byteOf 17 = .ok (.iload_n 3, 1) := by decide +kernel
theorem dX2_byteOf_18 : decode cX2_byteOf 18 = .ok (.aload_n 0, 1) := by decide +kernel
theorem dX2_byteOf_19 : decode cX2_byteOf 19 = .ok (.getfield 26, 3) := by decide +kernel
theorem dX2_byteOf_22 : decode cX2_byteOf 22 = .ok (.arraylength, 1) := by decide +kernel
theorem dX2_byteOf_23 : decode cX2_byteOf 23 = .ok (.if_icmp .ge 22, 3) := by decide +kernel
theorem dX2_byteOf_26 : decode cX2_byteOf 26 = .ok (.aload_n 0, 1) := by decide +kernel
theorem dX2_byteOf_27 : decode cX2_byteOf 27 = .ok (.getfield 26, 3) := by decide +kernel
theorem dX2_byteOf_30 : decode cX2_byteOf 30 = .ok (.iload_n 3, 1) := by decide +kernel
theorem dX2_byteOf_31 : decode cX2_byteOf 31 = .ok (.laload, 1) := by decide +kernel
theorem dX2_byteOf_32 : decode cX2_byteOf 32 = .ok (.iload_n 2, 1) := by decide +kernel
theorem dX2_byteOf_33 : decode cX2_byteOf 33 = .ok (.invokestatic 129, 3) := by decide +kernel
theorem dX2_byteOf_36 : decode cX2_byteOf 36 = .ok (.lushr, 1) := by decide +kernel
theorem dX2_byteOf_37 : decode cX2_byteOf 37 = .ok (.ldc2_w 132, 3) := by decide +kernel
theorem dX2_byteOf_40 : decode cX2_byteOf 40 = .ok (.land, 1) := by decide +kernel
theorem dX2_byteOf_41 : decode cX2_byteOf 41 = .ok (.l2i, 1) := by decide +kernel
theorem dX2_byteOf_42 : decode cX2_byteOf 42 = .ok (.goto 4, 3) := by decide +kernel
theorem dX2_byteOf_45 : decode cX2_byteOf 45 = .ok (.iconst 0, 1) := by decide +kernel
theorem dX2_byteOf_46 : decode cX2_byteOf 46 = .ok (.ireturn, 1) := by decide +kernel
theorem dX2_setByte_0 : decode cX2_setByte 0 = .ok (.aload_n 0, 1) := by decide +kernel
theorem dX2_setByte_1 : decode cX2_setByte 1 = .ok (.aload_n 1, 1) := by decide +kernel
theorem dX2_setByte_2 : decode cX2_setByte 2 = .ok (.iload_n 2, 1) := by decide +kernel
theorem dX2_setByte_3 : decode cX2_setByte 3 = .ok (.bipush 16, 2) := by decide +kernel
theorem dX2_setByte_5 : decode cX2_setByte 5 = .ok (.idiv, 1) := by decide +kernel
theorem dX2_setByte_6 : decode cX2_setByte 6 = .ok (.invokevirtual 134, 3) := by decide +kernel
theorem dX2_setByte_9 : decode cX2_setByte 9 = .ok (.istore 4, 2) := by decide +kernel
theorem dX2_setByte_11 : decode cX2_setByte 11 = .ok (.iload 4, 2) := by decide +kernel
theorem dX2_setByte_13 : decode cX2_setByte 13 = .ok (.iload_n 2, 1) := by decide +kernel
theorem dX2_setByte_14 : decode cX2_setByte 14 = .ok (.invokestatic 125, 3) := by decide +kernel
theorem dX2_setByte_17 : decode cX2_setByte 17 = .ok (.istore 5, 2) := by decide +kernel
theorem dX2_setByte_19 : decode cX2_setByte 19 = .ok (.iload 4, 2) := by decide +kernel
theorem dX2_setByte_21 : decode cX2_setByte 21 = .ok (.invokestatic 109, 3) := by decide +kernel
theorem dX2_setByte_24 : decode cX2_setByte 24 = .ok (.ifCond .eq 55, 3) := by decide +kernel
theorem dX2_setByte_27 : decode cX2_setByte 27 = .ok (.iload 5, 2) := by decide +kernel
theorem dX2_setByte_29 : decode cX2_setByte 29 = .ok (.ifCond .lt 50, 3) := by decide +kernel
theorem dX2_setByte_32 : decode cX2_setByte 32 = .ok (.iload 5, 2) := by decide +kernel
theorem dX2_setByte_34 : decode cX2_setByte 34 = .ok (.aload_n 0, 1) := by decide +kernel
theorem dX2_setByte_35 : decode cX2_setByte 35 = .ok (.getfield 26, 3) := by decide +kernel
theorem dX2_setByte_38 : decode cX2_setByte 38 = .ok (.arraylength, 1) := by decide +kernel
theorem dX2_setByte_39 : decode cX2_setByte 39 = .ok (.if_icmp .ge 40, 3) := by decide +kernel
theorem dX2_setByte_42 : decode cX2_setByte 42 = .ok (.iload_n 2, 1) := by decide +kernel
theorem dX2_setByte_43 : decode cX2_setByte 43 = .ok (.invokestatic 129, 3) := by decide +kernel
theorem dX2_setByte_46 : decode cX2_setByte 46 = .ok (.istore 6, 2) := by decide +kernel
theorem dX2_setByte_48 : decode cX2_setByte 48 = .ok (.aload_n 0, 1) := by decide +kernel
theorem dX2_setByte_49 : decode cX2_setByte 49 = .ok (.getfield 26, 3) := by decide +kernel
theorem dX2_setByte_52 : decode cX2_setByte 52 = .ok (.iload 5, 2) := by decide +kernel
theorem dX2_setByte_54 : decode cX2_setByte 54 = .ok (.aload_n 0, 1) := by decide +kernel
theorem dX2_setByte_55 : decode cX2_setByte 55 = .ok (.getfield 26, 3) := by decide +kernel
theorem dX2_setByte_58 : decode cX2_setByte 58 = .ok (.iload 5, 2) := by decide +kernel
theorem dX2_setByte_60 : decode cX2_setByte 60 = .ok (.laload, 1) := by decide +kernel
theorem dX2_setByte_61 : decode cX2_setByte 61 = .ok (.ldc2_w 132, 3) := by decide +kernel
theorem dX2_setByte_64 : decode cX2_setByte 64 = .ok (.iload 6, 2) := by decide +kernel
theorem dX2_setByte_66 : decode cX2_setByte 66 = .ok (.lshl, 1) := by decide +kernel
theorem dX2_setByte_67 : decode cX2_setByte 67 = .ok (.ldc2_w 138, 3) := by decide +kernel
theorem dX2_setByte_70 : decode cX2_setByte 70 = .ok (.lxor, 1) := by decide +kernel
theorem dX2_setByte_71 : decode cX2_setByte 71 = .ok (.land, 1) := by decide +kernel
theorem dX2_setByte_72 : decode cX2_setByte 72 = .ok (.iload_n 3, 1) := by decide +kernel
theorem dX2_setByte_73 : decode cX2_setByte 73 = .ok (.i2l, 1) := by decide +kernel
theorem dX2_setByte_74 : decode cX2_setByte 74 = .ok (.iload 6, 2) := by decide +kernel
theorem dX2_setByte_76 : decode cX2_setByte 76 = .ok (.lshl, 1) := by decide +kernel
theorem dX2_setByte_77 : decode cX2_setByte 77 = .ok (.lor, 1) := by decide +kernel
theorem dX2_setByte_78 : decode cX2_setByte 78 = .ok (.lastore, 1) := by decide +kernel
theorem dX2_setByte_79 : decode cX2_setByte 79 = .ok (.return_, 1) := by decide +kernel
theorem dX2_writeRow_0 : decode cX2_writeRow 0 = .ok (.iconst 0, 1) := by decide +kernel
theorem dX2_writeRow_1 : decode cX2_writeRow 1 = .ok (.istore 5, 2) := by decide +kernel
theorem dX2_writeRow_3 : decode cX2_writeRow 3 = .ok (.iload 5, 2) := by decide +kernel
theorem dX2_writeRow_5 : decode cX2_writeRow 5 = .ok (.iload_n 3, 1) := by decide +kernel
theorem dX2_writeRow_6 : decode cX2_writeRow 6 = .ok (.if_icmp .ge 27, 3) := by decide +kernel
theorem dX2_writeRow_9 : decode cX2_writeRow 9 = .ok (.aload_n 0, 1) := by decide +kernel
theorem dX2_writeRow_10 : decode cX2_writeRow 10 = .ok (.aload_n 1, 1) := by decide +kernel
theorem dX2_writeRow_11 : decode cX2_writeRow 11 = .ok (.iload_n 2, 1) := by decide +kernel
theorem dX2_writeRow_12 : decode cX2_writeRow 12 = .ok (.iload 5, 2) := by decide +kernel
theorem dX2_writeRow_14 : decode cX2_writeRow 14 = .ok (.iadd, 1) := by decide +kernel
theorem dX2_writeRow_15 : decode cX2_writeRow 15 = .ok (.iload 4, 2) := by decide +kernel
theorem dX2_writeRow_17 : decode cX2_writeRow 17 = .ok (.iload 5, 2) := by decide +kernel
theorem dX2_writeRow_19 : decode cX2_writeRow 19 = .ok (.iadd, 1) := by decide +kernel
theorem dX2_writeRow_20 : decode cX2_writeRow 20 = .ok (.sipush 256, 3) := by decide +kernel
theorem dX2_writeRow_23 : decode cX2_writeRow 23 = .ok (.irem, 1) := by decide +kernel
theorem dX2_writeRow_24 : decode cX2_writeRow 24 = .ok (.invokevirtual 140, 3) := by decide +kernel
theorem dX2_writeRow_27 : decode cX2_writeRow 27 = .ok (.iinc 5 1, 3) := by decide +kernel
theorem dX2_writeRow_30 : decode cX2_writeRow 30 = .ok (.goto (-27), 3) := by decide +kernel
theorem dX2_writeRow_33 : decode cX2_writeRow 33 = .ok (.aload_n 1, 1) := by decide +kernel
theorem dX2_writeRow_34 : decode cX2_writeRow 34 = .ok (.aload_n 1, 1) := by decide +kernel
theorem dX2_writeRow_35 : decode cX2_writeRow 35 = .ok (.getfield 143, 3) := by decide +kernel
theorem dX2_writeRow_38 : decode cX2_writeRow 38 = .ok (.iload_n 2, 1) := by decide +kernel
theorem dX2_writeRow_39 : decode cX2_writeRow 39 = .ok (.iload_n 3, 1) := by decide +kernel
theorem dX2_writeRow_40 : decode cX2_writeRow 40 = .ok (.iadd, 1) := by decide +kernel
theorem dX2_writeRow_41 : decode cX2_writeRow 41 = .ok (.invokestatic 146, 3) := by decide +kernel
theorem dX2_writeRow_44 : decode cX2_writeRow 44 = .ok (.putfield 143, 3) := by decide +kernel
theorem dX2_writeRow_47 : decode cX2_writeRow 47 = .ok (.return_, 1) := by decide +kernel
theorem dX2_resize_0 : decode cX2_resize 0 = .ok (.aload_n 1, 1) := by decide +kernel
theorem dX2_resize_1 : decode cX2_resize 1 = .ok (.getfield 143, 3) := by decide +kernel
theorem dX2_resize_4 : decode cX2_resize 4 = .ok (.istore_n 3, 1) := by decide +kernel
theorem dX2_resize_5 : decode cX2_resize 5 = .ok (.aload_n 1, 1) := by decide +kernel
theorem dX2_resize_6 : decode cX2_resize 6 = .ok (.iload_n 2, 1) := by decide +kernel
theorem dX2_resize_7 : decode cX2_resize 7 = .ok (.putfield 143, 3) := by decide +kernel
theorem dX2_resize_10 : decode cX2_resize 10 = .ok (.iload_n 2, 1) := by decide +kernel
theorem dX2_resize_11 : decode cX2_resize 11 = .ok (.iload_n 3, 1) := by decide +kernel
theorem dX2_resize_12 : decode cX2_resize 12 = .ok (.if_icmp .lt 4, 3) := by decide +kernel
theorem dX2_resize_15 : decode cX2_resize 15 = .ok (.return_, 1) := by decide +kernel
theorem dX2_resize_16 : decode cX2_resize 16 = .ok (.iload_n 2, 1) := by decide +kernel
theorem dX2_resize_17 : decode cX2_resize 17 = .ok (.bipush 16, 2) := by decide +kernel
theorem dX2_resize_19 : decode cX2_resize 19 = .ok (.iadd, 1) := by decide +kernel
theorem dX2_resize_20 : decode cX2_resize 20 = .ok (.iconst 1, 1) := by decide +kernel
theorem dX2_resize_21 : decode cX2_resize 21 = .ok (.isub, 1) := by decide +kernel
theorem dX2_resize_22 : decode cX2_resize 22 = .ok (.bipush 16, 2) := by decide +kernel
theorem dX2_resize_24 : decode cX2_resize 24 = .ok (.idiv, 1) := by decide +kernel
theorem dX2_resize_25 : decode cX2_resize 25 = .ok (.istore 4, 2) := by decide +kernel
theorem dX2_resize_27 : decode cX2_resize 27 = .ok (.iload 4, 2) := by decide +kernel
theorem dX2_resize_29 : decode cX2_resize 29 = .ok (.istore 5, 2) := by decide +kernel
theorem dX2_resize_31 : decode cX2_resize 31 = .ok (.iload 5, 2) := by decide +kernel
theorem dX2_resize_33 : decode cX2_resize 33 = .ok (.bipush 20, 2) := by decide +kernel
theorem dX2_resize_35 : decode cX2_resize 35 = .ok (.if_icmp .ge 17, 3) := by decide +kernel
theorem dX2_resize_38 : decode cX2_resize 38 = .ok (.aload_n 0, 1) := by decide +kernel
theorem dX2_resize_39 : decode cX2_resize 39 = .ok (.aload_n 1, 1) := by decide +kernel
theorem dX2_resize_40 : decode cX2_resize 40 = .ok (.iload 5, 2) := by decide +kernel
theorem dX2_resize_42 : decode cX2_resize 42 = .ok (.iconst 0, 1) := by decide +kernel
theorem dX2_resize_43 : decode cX2_resize 43 = .ok (.invokevirtual 98, 3) := by decide +kernel
theorem dX2_resize_46 : decode cX2_resize 46 = .ok (.iinc 5 1, 3) := by decide +kernel
theorem dX2_resize_49 : decode cX2_resize 49 = .ok (.goto (-18), 3) := by decide +kernel
theorem dX2_resize_52 : decode cX2_resize 52 = .ok (.iload 4, 2) := by decide +kernel
theorem dX2_resize_54 : decode cX2_resize 54 = .ok (.bipush 16, 2) := by decide +kernel
theorem dX2_resize_56 : decode cX2_resize 56 = .ok (.imul, 1) := by decide +kernel
theorem dX2_resize_57 : decode cX2_resize 57 = .ok (.istore 5, 2) := by decide +kernel
theorem dX2_resize_59 : decode cX2_resize 59 = .ok (.iload_n 2, 1) := by decide +kernel
theorem dX2_resize_60 : decode cX2_resize 60 = .ok (.istore 6, 2) := by decide +kernel
theorem dX2_resize_62 : decode cX2_resize 62 = .ok (.iload 6, 2) := by decide +kernel
theorem dX2_resize_64 : decode cX2_resize 64 = .ok (.iload 5, 2) := by decide +kernel
theorem dX2_resize_66 : decode cX2_resize 66 = .ok (.if_icmp .ge 29, 3) := by decide +kernel
theorem dX2_resize_69 : decode cX2_resize 69 = .ok (.aload_n 1, 1) := by decide +kernel
theorem dX2_resize_70 : decode cX2_resize 70 = .ok (.iload 6, 2) := by decide +kernel
theorem dX2_resize_72 : decode cX2_resize 72 = .ok (.bipush 16, 2) := by decide +kernel
theorem dX2_resize_74 : decode cX2_resize 74 = .ok (.idiv, 1) := by decide +kernel
theorem dX2_resize_75 : decode cX2_resize 75 = .ok (.invokevirtual 113, 3) := by decide +kernel
theorem dX2_resize_78 : decode cX2_resize 78 = .ok (.ifCond .eq 11, 3) := by decide +kernel
theorem dX2_resize_81 : decode cX2_resize 81 = .ok (.aload_n 0, 1) := by decide +kernel
theorem dX2_resize_82 : decode cX2_resize 82 = .ok (.aload_n 1, 1) := by decide +kernel
theorem dX2_resize_83 : decode cX2_resize 83 = .ok (.iload 6, 2) := by decide +kernel
theorem dX2_resize_85 : decode cX2_resize 85 = .ok (.iconst 0, 1) := by decide +kernel
theorem dX2_resize_86 : decode cX2_resize 86 = .ok (.invokevirtual 140, 3) := by decide +kernel
theorem dX2_resize_89 : decode cX2_resize 89 = .ok (.iinc 6 1, 3) := by decide +kernel
theorem dX2_resize_92 : decode cX2_resize 92 = .ok (.goto (-30), 3) := by decide +kernel
theorem dX2_resize_95 : decode cX2_resize 95 = .ok (.return_, 1) := by decide +kernel
theorem dX2_shareAll_0 : decode cX2_shareAll 0 = .ok (.aload_n 1, 1) := by decide +kernel
theorem dX2_shareAll_1 : decode cX2_shareAll 1 = .ok (.aload_n 2, 1) := by decide +kernel
theorem dX2_shareAll_2 : decode cX2_shareAll 2 = .ok (.getfield 143, 3) := by decide +kernel
theorem dX2_shareAll_5 : decode cX2_shareAll 5 = .ok (.putfield 143, 3) := by decide +kernel
theorem dX2_shareAll_8 : decode cX2_shareAll 8 = .ok (.iconst 0, 1) := by decide +kernel
theorem dX2_shareAll_9 : decode cX2_shareAll 9 = .ok (.istore_n 3, 1) := by decide +kernel
theorem dX2_shareAll_10 : decode cX2_shareAll 10 = .ok (.iload_n 3, 1) := by decide +kernel
theorem dX2_shareAll_11 : decode cX2_shareAll 11 = .ok (.bipush 20, 2) := by decide +kernel
theorem dX2_shareAll_13 : decode cX2_shareAll 13 = .ok (.if_icmp .ge 20, 3) := by decide +kernel
theorem dX2_shareAll_16 : decode cX2_shareAll 16 = .ok (.aload_n 0, 1) := by decide +kernel
theorem dX2_shareAll_17 : decode cX2_shareAll 17 = .ok (.aload_n 1, 1) := by decide +kernel
theorem dX2_shareAll_18 : decode cX2_shareAll 18 = .ok (.iload_n 3, 1) := by decide +kernel
theorem dX2_shareAll_19 : decode cX2_shareAll 19 = .ok (.aload_n 2, 1) := by decide +kernel
theorem dX2_shareAll_20 : decode cX2_shareAll 20 = .ok (.iload_n 3, 1) := by decide +kernel
theorem dX2_shareAll_21 : decode cX2_shareAll 21 = .ok (.invokevirtual 113, 3) := by decide +kernel
theorem dX2_shareAll_24 : decode cX2_shareAll 24 = .ok (.invokevirtual 98, 3) := by decide +kernel
theorem dX2_shareAll_27 : decode cX2_shareAll 27 = .ok (.iinc 3 1, 3) := by decide +kernel
theorem dX2_shareAll_30 : decode cX2_shareAll 30 = .ok (.goto (-20), 3) := by decide +kernel
theorem dX2_shareAll_33 : decode cX2_shareAll 33 = .ok (.return_, 1) := by decide +kernel
theorem dX2_sharedPlaces_0 : decode cX2_sharedPlaces 0 = .ok (.iconst 0, 1) := by decide +kernel
theorem dX2_sharedPlaces_1 : decode cX2_sharedPlaces 1 = .ok (.istore_n 2, 1) := by decide +kernel
theorem dX2_sharedPlaces_2 : decode cX2_sharedPlaces 2 = .ok (.iconst 0, 1) := by decide +kernel
theorem dX2_sharedPlaces_3 : decode cX2_sharedPlaces 3 = .ok (.istore_n 3, 1) := by decide +kernel
theorem dX2_sharedPlaces_4 : decode cX2_sharedPlaces 4 = .ok (.iload_n 3, 1) := by decide +kernel
theorem dX2_sharedPlaces_5 : decode cX2_sharedPlaces 5 = .ok (.bipush 20, 2) := by decide +kernel
theorem dX2_sharedPlaces_7 : decode cX2_sharedPlaces 7 = .ok (.if_icmp .ge 24, 3) := by decide +kernel
theorem dX2_sharedPlaces_10 : decode cX2_sharedPlaces 10 = .ok (.aload_n 0, 1) := by decide +kernel
theorem dX2_sharedPlaces_11 : decode cX2_sharedPlaces 11 = .ok (.aload_n 1, 1) := by decide +kernel
theorem dX2_sharedPlaces_12 : decode cX2_sharedPlaces 12 = .ok (.iload_n 3, 1) := by decide +kernel
theorem dX2_sharedPlaces_13 : decode cX2_sharedPlaces 13 = .ok (.invokevirtual 113, 3) := by decide +kernel
theorem dX2_sharedPlaces_16 : decode cX2_sharedPlaces 16 = .ok (.invokevirtual 119, 3) := by decide +kernel
theorem dX2_sharedPlaces_19 : decode cX2_sharedPlaces 19 = .ok (.ifCond .eq 6, 3) := by decide +kernel
theorem dX2_sharedPlaces_22 : decode cX2_sharedPlaces 22 = .ok (.iinc 2 1, 3) := by decide +kernel
theorem dX2_sharedPlaces_25 : decode cX2_sharedPlaces 25 = .ok (.iinc 3 1, 3) := by decide +kernel
theorem dX2_sharedPlaces_28 : decode cX2_sharedPlaces 28 = .ok (.goto (-24), 3) := by decide +kernel
theorem dX2_sharedPlaces_31 : decode cX2_sharedPlaces 31 = .ok (.iload_n 2, 1) := by decide +kernel
theorem dX2_sharedPlaces_32 : decode cX2_sharedPlaces 32 = .ok (.ireturn, 1) := by decide +kernel
theorem dX2_isSame_0 : decode cX2_isSame 0 = .ok (.aload_n 1, 1) := by decide +kernel
theorem dX2_isSame_1 : decode cX2_isSame 1 = .ok (.getfield 43, 3) := by decide +kernel
theorem dX2_isSame_4 : decode cX2_isSame 4 = .ok (.iconst 1, 1) := by decide +kernel
theorem dX2_isSame_5 : decode cX2_isSame 5 = .ok (.if_icmp .ne 22, 3) := by decide +kernel
theorem dX2_isSame_8 : decode cX2_isSame 8 = .ok (.aload_n 2, 1) := by decide +kernel
theorem dX2_isSame_9 : decode cX2_isSame 9 = .ok (.getfield 43, 3) := by decide +kernel
theorem dX2_isSame_12 : decode cX2_isSame 12 = .ok (.iconst 1, 1) := by decide +kernel
theorem dX2_isSame_13 : decode cX2_isSame 13 = .ok (.if_icmp .ne 14, 3) := by decide +kernel
theorem dX2_isSame_16 : decode cX2_isSame 16 = .ok (.aload_n 1, 1) := by decide +kernel
theorem dX2_isSame_17 : decode cX2_isSame 17 = .ok (.getfield 143, 3) := by decide +kernel
theorem dX2_isSame_20 : decode cX2_isSame 20 = .ok (.aload_n 2, 1) := by decide +kernel
theorem dX2_isSame_21 : decode cX2_isSame 21 = .ok (.getfield 143, 3) := by decide +kernel
theorem dX2_isSame_24 : decode cX2_isSame 24 = .ok (.if_icmp .eq 5, 3) := by decide +kernel
theorem dX2_isSame_27 : decode cX2_isSame 27 = .ok (.iconst 0, 1) := by decide +kernel
theorem dX2_isSame_28 : decode cX2_isSame 28 = .ok (.ireturn, 1) := by decide +kernel
theorem dX2_isSame_29 : decode cX2_isSame 29 = .ok (.iconst 0, 1) := by decide +kernel
theorem dX2_isSame_30 : decode cX2_isSame 30 = .ok (.istore_n 3, 1) := by decide +kernel
theorem dX2_isSame_31 : decode cX2_isSame 31 = .ok (.iload_n 3, 1) := by decide +kernel
theorem dX2_isSame_32 : decode cX2_isSame 32 = .ok (.aload_n 1, 1) := by decide +kernel
theorem dX2_isSame_33 : decode cX2_isSame 33 = .ok (.getfield 143, 3) := by decide +kernel
theorem dX2_isSame_36 : decode cX2_isSame 36 = .ok (.if_icmp .ge 26, 3) := by decide +kernel
theorem dX2_isSame_39 : decode cX2_isSame 39 = .ok (.aload_n 0, 1) := by decide +kernel
theorem dX2_isSame_40 : decode cX2_isSame 40 = .ok (.aload_n 1, 1) := by decide +kernel
theorem dX2_isSame_41 : decode cX2_isSame 41 = .ok (.iload_n 3, 1) := by decide +kernel
theorem dX2_isSame_42 : decode cX2_isSame 42 = .ok (.invokevirtual 151, 3) := by decide +kernel
theorem dX2_isSame_45 : decode cX2_isSame 45 = .ok (.aload_n 0, 1) := by decide +kernel
theorem dX2_isSame_46 : decode cX2_isSame 46 = .ok (.aload_n 2, 1) := by decide +kernel
theorem dX2_isSame_47 : decode cX2_isSame 47 = .ok (.iload_n 3, 1) := by decide +kernel
theorem dX2_isSame_48 : decode cX2_isSame 48 = .ok (.invokevirtual 151, 3) := by decide +kernel
theorem dX2_isSame_51 : decode cX2_isSame 51 = .ok (.if_icmp .eq 5, 3) := by decide +kernel
theorem dX2_isSame_54 : decode cX2_isSame 54 = .ok (.iconst 0, 1) := by decide +kernel
theorem dX2_isSame_55 : decode cX2_isSame 55 = .ok (.ireturn, 1) := by decide +kernel
theorem dX2_isSame_56 : decode cX2_isSame 56 = .ok (.iinc 3 1, 3) := by decide +kernel
theorem dX2_isSame_59 : decode cX2_isSame 59 = .ok (.goto (-28), 3) := by decide +kernel
theorem dX2_isSame_62 : decode cX2_isSame 62 = .ok (.iconst 1, 1) := by decide +kernel
theorem dX2_isSame_63 : decode cX2_isSame 63 = .ok (.ireturn, 1) := by decide +kernel
theorem dX2_blocksTaken_0 : decode cX2_blocksTaken 0 = .ok (.iconst 0, 1) := by decide +kernel
theorem dX2_blocksTaken_1 : decode cX2_blocksTaken 1 = .ok (.istore_n 1, 1) := by decide +kernel
theorem dX2_blocksTaken_2 : decode cX2_blocksTaken 2 = .ok (.iconst 0, 1) := by decide +kernel
theorem dX2_blocksTaken_3 : decode cX2_blocksTaken 3 = .ok (.istore_n 2, 1) := by decide +kernel
theorem dX2_blocksTaken_4 : decode cX2_blocksTaken 4 = .ok (.iload_n 2, 1) := by decide +kernel
theorem dX2_blocksTaken_5 : decode cX2_blocksTaken 5 = .ok (.aload_n 0, 1) := by decide +kernel
theorem dX2_blocksTaken_6 : decode cX2_blocksTaken 6 = .ok (.getfield 30, 3) := by decide +kernel
theorem dX2_blocksTaken_9 : decode cX2_blocksTaken 9 = .ok (.arraylength, 1) := by decide +kernel
theorem dX2_blocksTaken_10 : decode cX2_blocksTaken 10 = .ok (.if_icmp .ge 21, 3) := by decide +kernel
theorem dX2_blocksTaken_13 : decode cX2_blocksTaken 13 = .ok (.aload_n 0, 1) := by decide +kernel
theorem dX2_blocksTaken_14 : decode cX2_blocksTaken 14 = .ok (.getfield 30, 3) := by decide +kernel
theorem dX2_blocksTaken_17 : decode cX2_blocksTaken 17 = .ok (.iload_n 2, 1) := by decide +kernel
theorem dX2_blocksTaken_18 : decode cX2_blocksTaken 18 = .ok (.iaload, 1) := by decide +kernel
theorem dX2_blocksTaken_19 : decode cX2_blocksTaken 19 = .ok (.ifCond .le 6, 3) := by decide +kernel
theorem dX2_blocksTaken_22 : decode cX2_blocksTaken 22 = .ok (.iinc 1 1, 3) := by decide +kernel
theorem dX2_blocksTaken_25 : decode cX2_blocksTaken 25 = .ok (.iinc 2 1, 3) := by decide +kernel
theorem dX2_blocksTaken_28 : decode cX2_blocksTaken 28 = .ok (.goto (-24), 3) := by decide +kernel
theorem dX2_blocksTaken_31 : decode cX2_blocksTaken 31 = .ok (.iconst 0, 1) := by decide +kernel
theorem dX2_blocksTaken_32 : decode cX2_blocksTaken 32 = .ok (.istore_n 2, 1) := by decide +kernel
theorem dX2_blocksTaken_33 : decode cX2_blocksTaken 33 = .ok (.iload_n 2, 1) := by decide +kernel
theorem dX2_blocksTaken_34 : decode cX2_blocksTaken 34 = .ok (.aload_n 0, 1) := by decide +kernel
theorem dX2_blocksTaken_35 : decode cX2_blocksTaken 35 = .ok (.getfield 11, 3) := by decide +kernel
theorem dX2_blocksTaken_38 : decode cX2_blocksTaken 38 = .ok (.arraylength, 1) := by decide +kernel
theorem dX2_blocksTaken_39 : decode cX2_blocksTaken 39 = .ok (.if_icmp .ge 34, 3) := by decide +kernel
theorem dX2_blocksTaken_42 : decode cX2_blocksTaken 42 = .ok (.aload_n 0, 1) := by decide +kernel
theorem dX2_blocksTaken_43 : decode cX2_blocksTaken 43 = .ok (.getfield 11, 3) := by decide +kernel
theorem dX2_blocksTaken_46 : decode cX2_blocksTaken 46 = .ok (.iload_n 2, 1) := by decide +kernel
theorem dX2_blocksTaken_47 : decode cX2_blocksTaken 47 = .ok (.aaload, 1) := by decide +kernel
theorem dX2_blocksTaken_48 : decode cX2_blocksTaken 48 = .ok (.getfield 43, 3) := by decide +kernel
theorem dX2_blocksTaken_51 : decode cX2_blocksTaken 51 = .ok (.iconst 2, 1) := by decide +kernel
theorem dX2_blocksTaken_52 : decode cX2_blocksTaken 52 = .ok (.if_icmp .ne 15, 3) := by decide +kernel
theorem dX2_blocksTaken_55 : decode cX2_blocksTaken 55 = .ok (.iload_n 1, 1) := by decide +kernel
theorem dX2_blocksTaken_56 : decode cX2_blocksTaken 56 = .ok (.aload_n 0, 1) := by decide +kernel
theorem dX2_blocksTaken_57 : decode cX2_blocksTaken 57 = .ok (.getfield 11, 3) := by decide +kernel
theorem dX2_blocksTaken_60 : decode cX2_blocksTaken 60 = .ok (.iload_n 2, 1) := by decide +kernel
theorem dX2_blocksTaken_61 : decode cX2_blocksTaken 61 = .ok (.aaload, 1) := by decide +kernel
theorem dX2_blocksTaken_62 : decode cX2_blocksTaken 62 = .ok (.invokevirtual 154, 3) := by decide +kernel
theorem dX2_blocksTaken_65 : decode cX2_blocksTaken 65 = .ok (.iadd, 1) := by decide +kernel
theorem dX2_blocksTaken_66 : decode cX2_blocksTaken 66 = .ok (.istore_n 1, 1) := by decide +kernel
theorem dX2_blocksTaken_67 : decode cX2_blocksTaken 67 = .ok (.iinc 2 1, 3) := by decide +kernel
theorem dX2_blocksTaken_70 : decode cX2_blocksTaken 70 = .ok (.goto (-37), 3) := by decide +kernel
theorem dX2_blocksTaken_73 : decode cX2_blocksTaken 73 = .ok (.iload_n 1, 1) := by decide +kernel
theorem dX2_blocksTaken_74 : decode cX2_blocksTaken 74 = .ok (.ireturn, 1) := by decide +kernel
theorem dX2_takenBy_0 : decode cX2_takenBy 0 = .ok (.iconst 0, 1) := by decide +kernel
theorem dX2_takenBy_1 : decode cX2_takenBy 1 = .ok (.istore_n 2, 1) := by decide +kernel
theorem dX2_takenBy_2 : decode cX2_takenBy 2 = .ok (.iconst 0, 1) := by decide +kernel
theorem dX2_takenBy_3 : decode cX2_takenBy 3 = .ok (.istore_n 3, 1) := by decide +kernel
theorem dX2_takenBy_4 : decode cX2_takenBy 4 = .ok (.iload_n 3, 1) := by decide +kernel
theorem dX2_takenBy_5 : decode cX2_takenBy 5 = .ok (.aload_n 0, 1) := by decide +kernel
theorem dX2_takenBy_6 : decode cX2_takenBy 6 = .ok (.getfield 11, 3) := by decide +kernel
theorem dX2_takenBy_9 : decode cX2_takenBy 9 = .ok (.arraylength, 1) := by decide +kernel
theorem dX2_takenBy_10 : decode cX2_takenBy 10 = .ok (.if_icmp .ge 34, 3) := by decide +kernel
theorem dX2_takenBy_13 : decode cX2_takenBy 13 = .ok (.aload_n 0, 1) := by decide +kernel
theorem dX2_takenBy_14 : decode cX2_takenBy 14 = .ok (.getfield 11, 3) := by decide +kernel
theorem dX2_takenBy_17 : decode cX2_takenBy 17 = .ok (.iload_n 3, 1) := by decide +kernel
theorem dX2_takenBy_18 : decode cX2_takenBy 18 = .ok (.aaload, 1) := by decide +kernel
theorem dX2_takenBy_19 : decode cX2_takenBy 19 = .ok (.getfield 64, 3) := by decide +kernel
theorem dX2_takenBy_22 : decode cX2_takenBy 22 = .ok (.iload_n 1, 1) := by decide +kernel
theorem dX2_takenBy_23 : decode cX2_takenBy 23 = .ok (.if_icmp .ne 15, 3) := by decide +kernel
theorem dX2_takenBy_26 : decode cX2_takenBy 26 = .ok (.iload_n 2, 1) := by decide +kernel
theorem dX2_takenBy_27 : decode cX2_takenBy 27 = .ok (.aload_n 0, 1) := by decide +kernel
theorem dX2_takenBy_28 : decode cX2_takenBy 28 = .ok (.getfield 11, 3) := by decide +kernel
theorem dX2_takenBy_31 : decode cX2_takenBy 31 = .ok (.iload_n 3, 1) := by decide +kernel
theorem dX2_takenBy_32 : decode cX2_takenBy 32 = .ok (.aaload, 1) := by decide +kernel
theorem dX2_takenBy_33 : decode cX2_takenBy 33 = .ok (.invokevirtual 154, 3) := by decide +kernel
theorem dX2_takenBy_36 : decode cX2_takenBy 36 = .ok (.iadd, 1) := by decide +kernel
theorem dX2_takenBy_37 : decode cX2_takenBy 37 = .ok (.istore_n 2, 1) := by decide +kernel
theorem dX2_takenBy_38 : decode cX2_takenBy 38 = .ok (.iinc 3 1, 3) := by decide +kernel
theorem dX2_takenBy_41 : decode cX2_takenBy 41 = .ok (.goto (-37), 3) := by decide +kernel
theorem dX2_takenBy_44 : decode cX2_takenBy 44 = .ok (.iload_n 2, 1) := by decide +kernel
theorem dX2_takenBy_45 : decode cX2_takenBy 45 = .ok (.ireturn, 1) := by decide +kernel
theorem dX2_greatest_0 : decode cX2_greatest 0 = .ok (.iconst (-1), 1) := by decide +kernel
theorem dX2_greatest_1 : decode cX2_greatest 1 = .ok (.istore_n 1, 1) := by decide +kernel
theorem dX2_greatest_2 : decode cX2_greatest 2 = .ok (.iconst (-1), 1) := by decide +kernel
theorem dX2_greatest_3 : decode cX2_greatest 3 = .ok (.istore_n 2, 1) := by decide +kernel
theorem dX2_greatest_4 : decode cX2_greatest 4 = .ok (.iconst 0, 1) := by decide +kernel
theorem dX2_greatest_5 : decode cX2_greatest 5 = .ok (.istore_n 3, 1) := by decide +kernel
theorem dX2_greatest_6 : decode cX2_greatest 6 = .ok (.iload_n 3, 1) := by decide +kernel
theorem dX2_greatest_7 : decode cX2_greatest 7 = .ok (.aload_n 0, 1) := by decide +kernel
theorem dX2_greatest_8 : decode cX2_greatest 8 = .ok (.getfield 11, 3) := by decide +kernel
theorem dX2_greatest_11 : decode cX2_greatest 11 = .ok (.arraylength, 1) := by decide +kernel
theorem dX2_greatest_12 : decode cX2_greatest 12 = .ok (.if_icmp .ge 47, 3) := by decide +kernel
theorem dX2_greatest_15 : decode cX2_greatest 15 = .ok (.aload_n 0, 1) := by decide +kernel
theorem dX2_greatest_16 : decode cX2_greatest 16 = .ok (.getfield 11, 3) := by decide +kernel
theorem dX2_greatest_19 : decode cX2_greatest 19 = .ok (.iload_n 3, 1) := by decide +kernel
theorem dX2_greatest_20 : decode cX2_greatest 20 = .ok (.aaload, 1) := by decide +kernel
theorem dX2_greatest_21 : decode cX2_greatest 21 = .ok (.getfield 43, 3) := by decide +kernel
theorem dX2_greatest_24 : decode cX2_greatest 24 = .ok (.iconst 1, 1) := by decide +kernel
theorem dX2_greatest_25 : decode cX2_greatest 25 = .ok (.if_icmp .ne 28, 3) := by decide +kernel
theorem dX2_greatest_28 : decode cX2_greatest 28 = .ok (.aload_n 0, 1) := by decide +kernel
theorem dX2_greatest_29 : decode cX2_greatest 29 = .ok (.getfield 11, 3) := by decide +kernel
theorem dX2_greatest_32 : decode cX2_greatest 32 = .ok (.iload_n 3, 1) := by decide +kernel
theorem dX2_greatest_33 : decode cX2_greatest 33 = .ok (.aaload, 1) := by decide +kernel
theorem dX2_greatest_34 : decode cX2_greatest 34 = .ok (.invokevirtual 154, 3) := by decide +kernel
theorem dX2_greatest_37 : decode cX2_greatest 37 = .ok (.iload_n 2, 1) := by decide +kernel
theorem dX2_greatest_38 : decode cX2_greatest 38 = .ok (.if_icmp .le 15, 3) := by decide +kernel
theorem dX2_greatest_41 : decode cX2_greatest 41 = .ok (.iload_n 3, 1) := by decide +kernel
theorem dX2_greatest_42 : decode cX2_greatest 42 = .ok (.istore_n 1, 1) := by decide +kernel
theorem dX2_greatest_43 : decode cX2_greatest 43 = .ok (.aload_n 0, 1) := by decide +kernel
theorem dX2_greatest_44 : decode cX2_greatest 44 = .ok (.getfield 11, 3) := by decide +kernel
theorem dX2_greatest_47 : decode cX2_greatest 47 = .ok (.iload_n 3, 1) := by decide +kernel
theorem dX2_greatest_48 : decode cX2_greatest 48 = .ok (.aaload, 1) := by decide +kernel
theorem dX2_greatest_49 : decode cX2_greatest 49 = .ok (.invokevirtual 154, 3) := by decide +kernel
theorem dX2_greatest_52 : decode cX2_greatest 52 = .ok (.istore_n 2, 1) := by decide +kernel
theorem dX2_greatest_53 : decode cX2_greatest 53 = .ok (.iinc 3 1, 3) := by decide +kernel
theorem dX2_greatest_56 : decode cX2_greatest 56 = .ok (.goto (-50), 3) := by decide +kernel
theorem dX2_greatest_59 : decode cX2_greatest 59 = .ok (.iload_n 1, 1) := by decide +kernel
theorem dX2_greatest_60 : decode cX2_greatest 60 = .ok (.ireturn, 1) := by decide +kernel
theorem dX2_blocksWithin_0 : decode cX2_blocksWithin 0 = .ok (.aload_n 0, 1) := by decide +kernel
theorem dX2_blocksWithin_1 : decode cX2_blocksWithin 1 = .ok (.iload_n 1, 1) := by decide +kernel
theorem dX2_blocksWithin_2 : decode cX2_blocksWithin 2 = .ok (.invokevirtual 157, 3) := by decide +kernel
theorem dX2_blocksWithin_5 : decode cX2_blocksWithin 5 = .ok (.lstore_n 2, 1) := by decide +kernel
theorem dX2_blocksWithin_6 : decode cX2_blocksWithin 6 = .ok (.aload_n 0, 1) := by decide +kernel
theorem dX2_blocksWithin_7 : decode cX2_blocksWithin 7 = .ok (.lload_n 2, 1) := by decide +kernel
theorem dX2_blocksWithin_8 : decode cX2_blocksWithin 8 = .ok (.invokevirtual 161, 3) := by decide +kernel
theorem dX2_blocksWithin_11 : decode cX2_blocksWithin 11 = .ok (.iconst 0, 1) := by decide +kernel
theorem dX2_blocksWithin_12 : decode cX2_blocksWithin 12 = .ok (.istore 4, 2) := by decide +kernel
theorem dX2_blocksWithin_14 : decode cX2_blocksWithin 14 = .ok (.iconst 0, 1) := by decide +kernel
theorem dX2_blocksWithin_15 : decode cX2_blocksWithin 15 = .ok (.istore 5, 2) := by decide +kernel
theorem dX2_blocksWithin_17 : decode cX2_blocksWithin 17 = .ok (.iload 5, 2) := by decide +kernel
theorem dX2_blocksWithin_19 : decode cX2_blocksWithin 19 = .ok (.aload_n 0, 1) := by decide +kernel
theorem dX2_blocksWithin_20 : decode cX2_blocksWithin 20 = .ok (.getfield 37, 3) := by decide +kernel
theorem dX2_blocksWithin_23 : decode cX2_blocksWithin 23 = .ok (.arraylength, 1) := by decide +kernel
theorem dX2_blocksWithin_24 : decode cX2_blocksWithin 24 = .ok (.if_icmp .ge 22, 3) := by decide +kernel
theorem dX2_blocksWithin_27 : decode cX2_blocksWithin 27 = .ok (.aload_n 0, 1) := by decide +kernel
theorem dX2_blocksWithin_28 : decode cX2_blocksWithin 28 = .ok (.getfield 37, 3) := by decide +kernel
theorem dX2_blocksWithin_31 : decode cX2_blocksWithin 31 = .ok (.iload 5, 2) := by decide +kernel
theorem dX2_blocksWithin_33 : decode cX2_blocksWithin 33 = .ok (.iaload, 1) := by decide +kernel
theorem dX2_blocksWithin_34 : decode cX2_blocksWithin 34 = .ok (.ifCond .le 6, 3) := by decide +kernel
theorem dX2_blocksWithin_37 : decode cX2_blocksWithin 37 = .ok (.iinc 4 1, 3) := by decide +kernel
theorem dX2_blocksWithin_40 : decode cX2_blocksWithin 40 = .ok (.iinc 5 1, 3) := by decide +kernel
theorem dX2_blocksWithin_43 : decode cX2_blocksWithin 43 = .ok (.goto (-26), 3) := by decide +kernel
theorem dX2_blocksWithin_46 : decode cX2_blocksWithin 46 = .ok (.iconst 0, 1) := by decide +kernel
theorem dX2_blocksWithin_47 : decode cX2_blocksWithin 47 = .ok (.istore 5, 2) := by decide +kernel
theorem dX2_blocksWithin_49 : decode cX2_blocksWithin 49 = .ok (.iload 5, 2) := by decide +kernel
theorem dX2_blocksWithin_51 : decode cX2_blocksWithin 51 = .ok (.aload_n 0, 1) := by decide +kernel
theorem dX2_blocksWithin_52 : decode cX2_blocksWithin 52 = .ok (.getfield 11, 3) := by decide +kernel
theorem dX2_blocksWithin_55 : decode cX2_blocksWithin 55 = .ok (.arraylength, 1) := by decide +kernel
theorem dX2_blocksWithin_56 : decode cX2_blocksWithin 56 = .ok (.if_icmp .ge 47, 3) := by decide +kernel
theorem dX2_blocksWithin_59 : decode cX2_blocksWithin 59 = .ok (.lload_n 2, 1) := by decide +kernel
theorem dX2_blocksWithin_60 : decode cX2_blocksWithin 60 = .ok (.iload 5, 2) := by decide +kernel
theorem dX2_blocksWithin_62 : decode cX2_blocksWithin 62 = .ok (.invokestatic 165, 3) := by decide +kernel
theorem dX2_blocksWithin_65 : decode cX2_blocksWithin 65 = .ok (.ifCond .eq 32, 3) := by decide +kernel
theorem dX2_blocksWithin_68 : decode cX2_blocksWithin 68 = .ok (.aload_n 0, 1) := by decide +kernel
theorem dX2_blocksWithin_69 : decode cX2_blocksWithin 69 = .ok (.getfield 11, 3) := by decide +kernel
theorem dX2_blocksWithin_72 : decode cX2_blocksWithin 72 = .ok (.iload 5, 2) := by decide +kernel
theorem dX2_blocksWithin_74 : decode cX2_blocksWithin 74 = .ok (.aaload, 1) := by decide +kernel
theorem dX2_blocksWithin_75 : decode cX2_blocksWithin 75 = .ok (.getfield 43, 3) := by decide +kernel
theorem dX2_blocksWithin_78 : decode cX2_blocksWithin 78 = .ok (.iconst 2, 1) := by decide +kernel
theorem dX2_blocksWithin_79 : decode cX2_blocksWithin 79 = .ok (.if_icmp .ne 18, 3) := by decide +kernel
theorem dX2_blocksWithin_82 : decode cX2_blocksWithin 82 = .ok (.iload 4, 2) := by decide +kernel
theorem dX2_blocksWithin_84 : decode cX2_blocksWithin 84 = .ok (.aload_n 0, 1) := by decide +kernel
theorem dX2_blocksWithin_85 : decode cX2_blocksWithin 85 = .ok (.getfield 11, 3) := by decide +kernel
theorem dX2_blocksWithin_88 : decode cX2_blocksWithin 88 = .ok (.iload 5, 2) := by decide +kernel
theorem dX2_blocksWithin_90 : decode cX2_blocksWithin 90 = .ok (.aaload, 1) := by decide +kernel
theorem dX2_blocksWithin_91 : decode cX2_blocksWithin 91 = .ok (.invokevirtual 154, 3) := by decide +kernel
theorem dX2_blocksWithin_94 : decode cX2_blocksWithin 94 = .ok (.iadd, 1) := by decide +kernel
theorem dX2_blocksWithin_95 : decode cX2_blocksWithin 95 = .ok (.istore 4, 2) := by decide +kernel
theorem dX2_blocksWithin_97 : decode cX2_blocksWithin 97 = .ok (.iinc 5 1, 3) := by decide +kernel
theorem dX2_blocksWithin_100 : decode cX2_blocksWithin 100 = .ok (.goto (-51), 3) := by decide +kernel
theorem dX2_blocksWithin_103 : decode cX2_blocksWithin 103 = .ok (.iload 4, 2) := by decide +kernel
theorem dX2_blocksWithin_105 : decode cX2_blocksWithin 105 = .ok (.ireturn, 1) := by decide +kernel
theorem dX2_freedWithout_0 : decode cX2_freedWithout 0 = .ok (.aload_n 0, 1) := by decide +kernel
theorem dX2_freedWithout_1 : decode cX2_freedWithout 1 = .ok (.iload_n 1, 1) := by decide +kernel
theorem dX2_freedWithout_2 : decode cX2_freedWithout 2 = .ok (.invokevirtual 157, 3) := by decide +kernel
theorem dX2_freedWithout_5 : decode cX2_freedWithout 5 = .ok (.lstore_n 2, 1) := by decide +kernel
theorem dX2_freedWithout_6 : decode cX2_freedWithout 6 = .ok (.aload_n 0, 1) := by decide +kernel
theorem dX2_freedWithout_7 : decode cX2_freedWithout 7 = .ok (.lload_n 2, 1) := by decide +kernel
theorem dX2_freedWithout_8 : decode cX2_freedWithout 8 = .ok (.invokevirtual 161, 3) := by decide +kernel
theorem dX2_freedWithout_11 : decode cX2_freedWithout 11 = .ok (.iconst 0, 1) := by decide +kernel
theorem dX2_freedWithout_12 : decode cX2_freedWithout 12 = .ok (.istore 4, 2) := by decide +kernel
theorem dX2_freedWithout_14 : decode cX2_freedWithout 14 = .ok (.iconst 0, 1) := by decide +kernel
theorem dX2_freedWithout_15 : decode cX2_freedWithout 15 = .ok (.istore 5, 2) := by decide +kernel
theorem dX2_freedWithout_17 : decode cX2_freedWithout 17 = .ok (.iload 5, 2) := by decide +kernel
theorem dX2_freedWithout_19 : decode cX2_freedWithout 19 = .ok (.aload_n 0, 1) := by decide +kernel
theorem dX2_freedWithout_20 : decode cX2_freedWithout 20 = .ok (.getfield 37, 3) := by decide +kernel
theorem dX2_freedWithout_23 : decode cX2_freedWithout 23 = .ok (.arraylength, 1) := by decide +kernel
theorem dX2_freedWithout_24 : decode cX2_freedWithout 24 = .ok (.if_icmp .ge 49, 3) := by decide +kernel
theorem dX2_freedWithout_27 : decode cX2_freedWithout 27 = .ok (.iload 5, 2) := by decide +kernel
theorem dX2_freedWithout_29 : decode cX2_freedWithout 29 = .ok (.aload_n 0, 1) := by decide +kernel
theorem dX2_freedWithout_30 : decode cX2_freedWithout 30 = .ok (.getfield 30, 3) := by decide +kernel
theorem dX2_freedWithout_33 : decode cX2_freedWithout 33 = .ok (.arraylength, 1) := by decide +kernel
theorem dX2_freedWithout_34 : decode cX2_freedWithout 34 = .ok (.if_icmp .ge 39, 3) := by decide +kernel
theorem dX2_freedWithout_37 : decode cX2_freedWithout 37 = .ok (.aload_n 0, 1) := by decide +kernel
theorem dX2_freedWithout_38 : decode cX2_freedWithout 38 = .ok (.getfield 37, 3) := by decide +kernel
theorem dX2_freedWithout_41 : decode cX2_freedWithout 41 = .ok (.iload 5, 2) := by decide +kernel
theorem dX2_freedWithout_43 : decode cX2_freedWithout 43 = .ok (.iaload, 1) := by decide +kernel
theorem dX2_freedWithout_44 : decode cX2_freedWithout 44 = .ok (.ifCond .le 23, 3) := by decide +kernel
theorem dX2_freedWithout_47 : decode cX2_freedWithout 47 = .ok (.aload_n 0, 1) := by decide +kernel
theorem dX2_freedWithout_48 : decode cX2_freedWithout 48 = .ok (.getfield 37, 3) := by decide +kernel
theorem dX2_freedWithout_51 : decode cX2_freedWithout 51 = .ok (.iload 5, 2) := by decide +kernel
theorem dX2_freedWithout_53 : decode cX2_freedWithout 53 = .ok (.iaload, 1) := by decide +kernel
theorem dX2_freedWithout_54 : decode cX2_freedWithout 54 = .ok (.aload_n 0, 1) := by decide +kernel
theorem dX2_freedWithout_55 : decode cX2_freedWithout 55 = .ok (.getfield 30, 3) := by decide +kernel
theorem dX2_freedWithout_58 : decode cX2_freedWithout 58 = .ok (.iload 5, 2) := by decide +kernel
theorem dX2_freedWithout_60 : decode cX2_freedWithout 60 = .ok (.iaload, 1) := by decide +kernel
theorem dX2_freedWithout_61 : decode cX2_freedWithout 61 = .ok (.if_icmp .ne 6, 3) := by decide +kernel
theorem dX2_freedWithout_64 : decode cX2_freedWithout 64 = .ok (.iinc 4 1, 3) := by decide +kernel
theorem dX2_freedWithout_67 : decode cX2_freedWithout 67 = .ok (.iinc 5 1, 3) := by decide +kernel
theorem dX2_freedWithout_70 : decode cX2_freedWithout 70 = .ok (.goto (-53), 3) := by decide +kernel
theorem dX2_freedWithout_73 : decode cX2_freedWithout 73 = .ok (.iconst 0, 1) := by decide +kernel
theorem dX2_freedWithout_74 : decode cX2_freedWithout 74 = .ok (.istore 5, 2) := by decide +kernel
theorem dX2_freedWithout_76 : decode cX2_freedWithout 76 = .ok (.iload 5, 2) := by decide +kernel
theorem dX2_freedWithout_78 : decode cX2_freedWithout 78 = .ok (.aload_n 0, 1) := by decide +kernel
theorem dX2_freedWithout_79 : decode cX2_freedWithout 79 = .ok (.getfield 11, 3) := by decide +kernel
theorem dX2_freedWithout_82 : decode cX2_freedWithout 82 = .ok (.arraylength, 1) := by decide +kernel
theorem dX2_freedWithout_83 : decode cX2_freedWithout 83 = .ok (.if_icmp .ge 70, 3) := by decide +kernel
theorem dX2_freedWithout_86 : decode cX2_freedWithout 86 = .ok (.aload_n 0, 1) := by decide +kernel
theorem dX2_freedWithout_87 : decode cX2_freedWithout 87 = .ok (.getfield 11, 3) := by decide +kernel
theorem dX2_freedWithout_90 : decode cX2_freedWithout 90 = .ok (.iload 5, 2) := by decide +kernel
theorem dX2_freedWithout_92 : decode cX2_freedWithout 92 = .ok (.aaload, 1) := by decide +kernel
theorem dX2_freedWithout_93 : decode cX2_freedWithout 93 = .ok (.getfield 43, 3) := by decide +kernel
theorem dX2_freedWithout_96 : decode cX2_freedWithout 96 = .ok (.iconst 2, 1) := by decide +kernel
theorem dX2_freedWithout_97 : decode cX2_freedWithout 97 = .ok (.if_icmp .ne 50, 3) := by decide +kernel
theorem dX2_freedWithout_100 : decode cX2_freedWithout 100 = .ok (.lload_n 2, 1) := by decide +kernel
theorem dX2_freedWithout_101 : decode cX2_freedWithout 101 = .ok (.iload 5, 2) := by decide +kernel
theorem dX2_freedWithout_103 : decode cX2_freedWithout 103 = .ok (.invokestatic 165, 3) := by decide +kernel
theorem dX2_freedWithout_106 : decode cX2_freedWithout 106 = .ok (.ifCond .eq 7, 3) := by decide +kernel
theorem dX2_freedWithout_109 : decode cX2_freedWithout 109 = .ok (.iconst 0, 1) := by decide +kernel
theorem dX2_freedWithout_110 : decode cX2_freedWithout 110 = .ok (.goto 14, 3) := by decide +kernel
theorem dX2_freedWithout_113 : decode cX2_freedWithout 113 = .ok (.aload_n 0, 1) := by decide +kernel
theorem dX2_freedWithout_114 : decode cX2_freedWithout 114 = .ok (.getfield 11, 3) := by decide +kernel
theorem dX2_freedWithout_117 : decode cX2_freedWithout 117 = .ok (.iload 5, 2) := by decide +kernel
theorem dX2_freedWithout_119 : decode cX2_freedWithout 119 = .ok (.aaload, 1) := by decide +kernel
theorem dX2_freedWithout_120 : decode cX2_freedWithout 120 = .ok (.lload_n 2, 1) := by decide +kernel
theorem dX2_freedWithout_121 : decode cX2_freedWithout 121 = .ok (.invokestatic 169, 3) := by decide +kernel
theorem dX2_freedWithout_124 : decode cX2_freedWithout 124 = .ok (.istore 6, 2) := by decide +kernel
theorem dX2_freedWithout_126 : decode cX2_freedWithout 126 = .ok (.iload 4, 2) := by decide +kernel
theorem dX2_freedWithout_128 : decode cX2_freedWithout 128 = .ok (.aload_n 0, 1) := by decide +kernel
theorem dX2_freedWithout_129 : decode cX2_freedWithout 129 = .ok (.getfield 11, 3) := by decide +kernel
theorem dX2_freedWithout_132 : decode cX2_freedWithout 132 = .ok (.iload 5, 2) := by decide +kernel
theorem dX2_freedWithout_134 : decode cX2_freedWithout 134 = .ok (.aaload, 1) := by decide +kernel
theorem dX2_freedWithout_135 : decode cX2_freedWithout 135 = .ok (.invokevirtual 154, 3) := by decide +kernel
theorem dX2_freedWithout_138 : decode cX2_freedWithout 138 = .ok (.iload 6, 2) := by decide +kernel
theorem dX2_freedWithout_140 : decode cX2_freedWithout 140 = .ok (.invokestatic 173, 3) := by decide +kernel
theorem dX2_freedWithout_143 : decode cX2_freedWithout 143 = .ok (.isub, 1) := by decide +kernel
theorem dX2_freedWithout_144 : decode cX2_freedWithout 144 = .ok (.iadd, 1) := by decide +kernel
theorem dX2_freedWithout_145 : decode cX2_freedWithout 145 = .ok (.istore 4, 2) := by decide +kernel
theorem dX2_freedWithout_147 : decode cX2_freedWithout 147 = .ok (.iinc 5 1, 3) := by decide +kernel
theorem dX2_freedWithout_150 : decode cX2_freedWithout 150 = .ok (.goto (-74), 3) := by decide +kernel
theorem dX2_freedWithout_153 : decode cX2_freedWithout 153 = .ok (.iload 4, 2) := by decide +kernel
theorem dX2_freedWithout_155 : decode cX2_freedWithout 155 = .ok (.ireturn, 1) := by decide +kernel
theorem dX2_isIn_0 : decode cX2_isIn 0 = .ok (.lload_n 0, 1) := by decide +kernel
theorem dX2_isIn_1 : decode cX2_isIn 1 = .ok (.iload_n 2, 1) := by decide +kernel
theorem dX2_isIn_2 : decode cX2_isIn 2 = .ok (.lshr, 1) := by decide +kernel
theorem dX2_isIn_3 : decode cX2_isIn 3 = .ok (.lconst 1, 1) := by decide +kernel
theorem dX2_isIn_4 : decode cX2_isIn 4 = .ok (.land, 1) := by decide +kernel
theorem dX2_isIn_5 : decode cX2_isIn 5 = .ok (.lconst 0, 1) := by decide +kernel
theorem dX2_isIn_6 : decode cX2_isIn 6 = .ok (.lcmp, 1) := by decide +kernel
theorem dX2_isIn_7 : decode cX2_isIn 7 = .ok (.ifCond .eq 7, 3) := by decide +kernel
theorem dX2_isIn_10 : decode cX2_isIn 10 = .ok (.iconst 1, 1) := by decide +kernel
theorem dX2_isIn_11 : decode cX2_isIn 11 = .ok (.goto 4, 3) := by decide +kernel
theorem dX2_isIn_14 : decode cX2_isIn 14 = .ok (.iconst 0, 1) := by decide +kernel
theorem dX2_isIn_15 : decode cX2_isIn 15 = .ok (.ireturn, 1) := by decide +kernel
theorem dX2_reach_0 : decode cX2_reach 0 = .ok (.lconst 1, 1) := by decide +kernel
theorem dX2_reach_1 : decode cX2_reach 1 = .ok (.iload_n 1, 1) := by decide +kernel
theorem dX2_reach_2 : decode cX2_reach 2 = .ok (.lshl, 1) := by decide +kernel
theorem dX2_reach_3 : decode cX2_reach 3 = .ok (.lstore_n 2, 1) := by decide +kernel
theorem dX2_reach_4 : decode cX2_reach 4 = .ok (.lload_n 2, 1) := by decide +kernel
theorem dX2_reach_5 : decode cX2_reach 5 = .ok (.lstore 4, 2) := by decide +kernel
theorem dX2_reach_7 : decode cX2_reach 7 = .ok (.iconst 0, 1) := by decide +kernel
theorem dX2_reach_8 : decode cX2_reach 8 = .ok (.istore 6, 2) := by decide +kernel
theorem dX2_reach_10 : decode cX2_reach 10 = .ok (.iload 6, 2) := by decide +kernel
theorem dX2_reach_12 : decode cX2_reach 12 = .ok (.bipush 32, 2) := by decide +kernel
theorem dX2_reach_14 : decode cX2_reach 14 = .ok (.if_icmp .ge 78, 3) := by decide +kernel
theorem dX2_reach_17 : decode cX2_reach 17 = .ok (.lload 4, 2) := by decide +kernel
theorem dX2_reach_19 : decode cX2_reach 19 = .ok (.lconst 0, 1) := by decide +kernel
theorem dX2_reach_20 : decode cX2_reach 20 = .ok (.lcmp, 1) := by decide +kernel
theorem dX2_reach_21 : decode cX2_reach 21 = .ok (.ifCond .eq 71, 3) := by decide +kernel
theorem dX2_reach_24 : decode cX2_reach 24 = .ok (.lconst 0, 1) := by decide +kernel
theorem dX2_reach_25 : decode cX2_reach 25 = .ok (.lstore 7, 2) := by decide +kernel
theorem dX2_reach_27 : decode cX2_reach 27 = .ok (.iconst 0, 1) := by decide +kernel
theorem dX2_reach_28 : decode cX2_reach 28 = .ok (.istore 9, 2) := by decide +kernel
theorem dX2_reach_30 : decode cX2_reach 30 = .ok (.iload 9, 2) := by decide +kernel
theorem dX2_reach_32 : decode cX2_reach 32 = .ok (.aload_n 0, 1) := by decide +kernel
theorem dX2_reach_33 : decode cX2_reach 33 = .ok (.getfield 11, 3) := by decide +kernel
theorem dX2_reach_36 : decode cX2_reach 36 = .ok (.arraylength, 1) := by decide +kernel
theorem dX2_reach_37 : decode cX2_reach 37 = .ok (.if_icmp .ge 34, 3) := by decide +kernel
theorem dX2_reach_40 : decode cX2_reach 40 = .ok (.lload 4, 2) := by decide +kernel
theorem dX2_reach_42 : decode cX2_reach 42 = .ok (.iload 9, 2) := by decide +kernel
theorem dX2_reach_44 : decode cX2_reach 44 = .ok (.invokestatic 165, 3) := by decide +kernel
theorem dX2_reach_47 : decode cX2_reach 47 = .ok (.ifCond .eq 18, 3) := by decide +kernel
theorem dX2_reach_50 : decode cX2_reach 50 = .ok (.lload 7, 2) := by decide +kernel
theorem dX2_reach_52 : decode cX2_reach 52 = .ok (.aload_n 0, 1) := by decide +kernel
theorem dX2_reach_53 : decode cX2_reach 53 = .ok (.getfield 11, 3) := by decide +kernel
theorem dX2_reach_56 : decode cX2_reach 56 = .ok (.iload 9, 2) := by decide +kernel
theorem dX2_reach_58 : decode cX2_reach 58 = .ok (.aaload, 1) := by decide +kernel
theorem dX2_reach_59 : decode cX2_reach 59 = .ok (.invokestatic 176, 3) := by decide +kernel
theorem dX2_reach_62 : decode cX2_reach 62 = .ok (.lor, 1) := by decide +kernel
theorem dX2_reach_63 : decode cX2_reach 63 = .ok (.lstore 7, 2) := by decide +kernel
theorem dX2_reach_65 : decode cX2_reach 65 = .ok (.iinc 9 1, 3) := by decide +kernel
theorem dX2_reach_68 : decode cX2_reach 68 = .ok (.goto (-38), 3) := by decide +kernel
theorem dX2_reach_71 : decode cX2_reach 71 = .ok (.lload 7, 2) := by decide +kernel
theorem dX2_reach_73 : decode cX2_reach 73 = .ok (.lload_n 2, 1) := by decide +kernel
theorem dX2_reach_74 : decode cX2_reach 74 = .ok (.ldc2_w 138, 3) := by decide +kernel
theorem dX2_reach_77 : decode cX2_reach 77 = .ok (.lxor, 1) := by decide +kernel
theorem dX2_reach_78 : decode cX2_reach 78 = .ok (.land, 1) := by decide +kernel
theorem dX2_reach_79 : decode cX2_reach 79 = .ok (.lstore 4, 2) := by decide +kernel
theorem dX2_reach_81 : decode cX2_reach 81 = .ok (.lload_n 2, 1) := by decide +kernel
theorem dX2_reach_82 : decode cX2_reach 82 = .ok (.lload 4, 2) := by decide +kernel
theorem dX2_reach_84 : decode cX2_reach 84 = .ok (.lor, 1) := by decide +kernel
theorem dX2_reach_85 : decode cX2_reach 85 = .ok (.lstore_n 2, 1) := by decide +kernel
theorem dX2_reach_86 : decode cX2_reach 86 = .ok (.iinc 6 1, 3) := by decide +kernel
theorem dX2_reach_89 : decode cX2_reach 89 = .ok (.goto (-79), 3) := by decide +kernel
theorem dX2_reach_92 : decode cX2_reach 92 = .ok (.lload_n 2, 1) := by decide +kernel
theorem dX2_reach_93 : decode cX2_reach 93 = .ok (.lreturn, 1) := by decide +kernel
theorem dX2_insideOf_0 : decode cX2_insideOf 0 = .ok (.lconst 0, 1) := by decide +kernel
theorem dX2_insideOf_1 : decode cX2_insideOf 1 = .ok (.lstore_n 1, 1) := by decide +kernel
theorem dX2_insideOf_2 : decode cX2_insideOf 2 = .ok (.iconst 0, 1) := by decide +kernel
theorem dX2_insideOf_3 : decode cX2_insideOf 3 = .ok (.istore_n 3, 1) := by decide +kernel
theorem dX2_insideOf_4 : decode cX2_insideOf 4 = .ok (.iload_n 3, 1) := by decide +kernel
theorem dX2_insideOf_5 : decode cX2_insideOf 5 = .ok (.aload_n 0, 1) := by decide +kernel
theorem dX2_insideOf_6 : decode cX2_insideOf 6 = .ok (.getfield 180, 3) := by decide +kernel
theorem dX2_insideOf_9 : decode cX2_insideOf 9 = .ok (.if_icmp .ge 19, 3) := by decide +kernel
theorem dX2_insideOf_12 : decode cX2_insideOf 12 = .ok (.lload_n 1, 1) := by decide +kernel
theorem dX2_insideOf_13 : decode cX2_insideOf 13 = .ok (.lconst 1, 1) := by decide +kernel
theorem dX2_insideOf_14 : decode cX2_insideOf 14 = .ok (.aload_n 0, 1) := by decide +kernel
theorem dX2_insideOf_15 : decode cX2_insideOf 15 = .ok (.iload_n 3, 1) := by decide +kernel
theorem dX2_insideOf_16 : decode cX2_insideOf 16 = .ok (.invokevirtual 88, 3) := by decide +kernel
theorem dX2_insideOf_19 : decode cX2_insideOf 19 = .ok (.lshl, 1) := by decide +kernel
theorem dX2_insideOf_20 : decode cX2_insideOf 20 = .ok (.lor, 1) := by decide +kernel
theorem dX2_insideOf_21 : decode cX2_insideOf 21 = .ok (.lstore_n 1, 1) := by decide +kernel
theorem dX2_insideOf_22 : decode cX2_insideOf 22 = .ok (.iinc 3 1, 3) := by decide +kernel
theorem dX2_insideOf_25 : decode cX2_insideOf 25 = .ok (.goto (-21), 3) := by decide +kernel
theorem dX2_insideOf_28 : decode cX2_insideOf 28 = .ok (.lload_n 1, 1) := by decide +kernel
theorem dX2_insideOf_29 : decode cX2_insideOf 29 = .ok (.lreturn, 1) := by decide +kernel
theorem dX2_entriesOutside_0 : decode cX2_entriesOutside 0 = .ok (.iconst 0, 1) := by decide +kernel
theorem dX2_entriesOutside_1 : decode cX2_entriesOutside 1 = .ok (.istore_n 3, 1) := by decide +kernel
theorem dX2_entriesOutside_2 : decode cX2_entriesOutside 2 = .ok (.iconst 0, 1) := by decide +kernel
theorem dX2_entriesOutside_3 : decode cX2_entriesOutside 3 = .ok (.istore 4, 2) := by decide +kernel
theorem dX2_entriesOutside_5 : decode cX2_entriesOutside 5 = .ok (.iload 4, 2) := by decide +kernel
theorem dX2_entriesOutside_7 : decode cX2_entriesOutside 7 = .ok (.aload_n 0, 1) := by decide +kernel
theorem dX2_entriesOutside_8 : decode cX2_entriesOutside 8 = .ok (.getfield 180, 3) := by decide +kernel
theorem dX2_entriesOutside_11 : decode cX2_entriesOutside 11 = .ok (.if_icmp .ge 25, 3) := by decide +kernel
theorem dX2_entriesOutside_14 : decode cX2_entriesOutside 14 = .ok (.lload_n 1, 1) := by decide +kernel
theorem dX2_entriesOutside_15 : decode cX2_entriesOutside 15 = .ok (.aload_n 0, 1) := by decide +kernel
theorem dX2_entriesOutside_16 : decode cX2_entriesOutside 16 = .ok (.iload 4, 2) := by decide +kernel
theorem dX2_entriesOutside_18 : decode cX2_entriesOutside 18 = .ok (.invokevirtual 88, 3) := by decide +kernel
theorem dX2_entriesOutside_21 : decode cX2_entriesOutside 21 = .ok (.invokestatic 165, 3) := by decide +kernel
theorem dX2_entriesOutside_24 : decode cX2_entriesOutside 24 = .ok (.ifCond .ne 6, 3) := by decide +kernel
theorem dX2_entriesOutside_27 : decode cX2_entriesOutside 27 = .ok (.iinc 3 1, 3) := by decide +kernel
theorem dX2_entriesOutside_30 : decode cX2_entriesOutside 30 = .ok (.iinc 4 1, 3) := by decide +kernel
theorem dX2_entriesOutside_33 : decode cX2_entriesOutside 33 = .ok (.goto (-28), 3) := by decide +kernel
theorem dX2_entriesOutside_36 : decode cX2_entriesOutside 36 = .ok (.iload_n 3, 1) := by decide +kernel
theorem dX2_entriesOutside_37 : decode cX2_entriesOutside 37 = .ok (.ireturn, 1) := by decide +kernel
theorem dX2_countHolders_0 : decode cX2_countHolders 0 = .ok (.iconst 0, 1) := by decide +kernel
theorem dX2_countHolders_1 : decode cX2_countHolders 1 = .ok (.istore_n 3, 1) := by decide +kernel
theorem dX2_countHolders_2 : decode cX2_countHolders 2 = .ok (.iload_n 3, 1) := by decide +kernel
theorem dX2_countHolders_3 : decode cX2_countHolders 3 = .ok (.aload_n 0, 1) := by decide +kernel
theorem dX2_countHolders_4 : decode cX2_countHolders 4 = .ok (.getfield 37, 3) := by decide +kernel
theorem dX2_countHolders_7 : decode cX2_countHolders 7 = .ok (.arraylength, 1) := by decide +kernel
theorem dX2_countHolders_8 : decode cX2_countHolders 8 = .ok (.if_icmp .ge 16, 3) := by decide +kernel
theorem dX2_countHolders_11 : decode cX2_countHolders 11 = .ok (.aload_n 0, 1) := by decide +kernel
theorem dX2_countHolders_12 : decode cX2_countHolders 12 = .ok (.getfield 37, 3) := by decide +kernel
theorem dX2_countHolders_15 : decode cX2_countHolders 15 = .ok (.iload_n 3, 1) := by decide +kernel
theorem dX2_countHolders_16 : decode cX2_countHolders 16 = .ok (.iconst 0, 1) := by decide +kernel
theorem dX2_countHolders_17 : decode cX2_countHolders 17 = .ok (.iastore, 1) := by decide +kernel
theorem dX2_countHolders_18 : decode cX2_countHolders 18 = .ok (.iinc 3 1, 3) := by decide +kernel
theorem dX2_countHolders_21 : decode cX2_countHolders 21 = .ok (.goto (-19), 3) := by decide +kernel
theorem dX2_countHolders_24 : decode cX2_countHolders 24 = .ok (.iconst 0, 1) := by decide +kernel
theorem dX2_countHolders_25 : decode cX2_countHolders 25 = .ok (.istore_n 3, 1) := by decide +kernel
theorem dX2_countHolders_26 : decode cX2_countHolders 26 = .ok (.iload_n 3, 1) := by decide +kernel
theorem dX2_countHolders_27 : decode cX2_countHolders 27 = .ok (.aload_n 0, 1) := by decide +kernel
theorem dX2_countHolders_28 : decode cX2_countHolders 28 = .ok (.getfield 11, 3) := by decide +kernel
theorem dX2_countHolders_31 : decode cX2_countHolders 31 = .ok (.arraylength, 1) := by decide +kernel
theorem dX2_countHolders_32 : decode cX2_countHolders 32 = .ok (.if_icmp .ge 65, 3) := by decide +kernel
theorem dX2_countHolders_35 : decode cX2_countHolders 35 = .ok (.iconst 0, 1) := by decide +kernel
theorem dX2_countHolders_36 : decode cX2_countHolders 36 = .ok (.istore 4, 2) := by decide +kernel
theorem dX2_countHolders_38 : decode cX2_countHolders 38 = .ok (.lload_n 1, 1) := by decide +kernel
theorem dX2_countHolders_39 : decode cX2_countHolders 39 = .ok (.iload_n 3, 1) := by decide +kernel
theorem dX2_countHolders_40 : decode cX2_countHolders 40 = .ok (.invokestatic 165, 3) := by decide +kernel
theorem dX2_countHolders_43 : decode cX2_countHolders 43 = .ok (.ifCond .eq 48, 3) := by decide +kernel
theorem dX2_countHolders_46 : decode cX2_countHolders 46 = .ok (.iload 4, 2) := by decide +kernel
theorem dX2_countHolders_48 : decode cX2_countHolders 48 = .ok (.bipush 20, 2) := by decide +kernel
theorem dX2_countHolders_50 : decode cX2_countHolders 50 = .ok (.if_icmp .ge 41, 3) := by decide +kernel
theorem dX2_countHolders_53 : decode cX2_countHolders 53 = .ok (.aload_n 0, 1) := by decide +kernel
theorem dX2_countHolders_54 : decode cX2_countHolders 54 = .ok (.getfield 11, 3) := by decide +kernel
theorem dX2_countHolders_57 : decode cX2_countHolders 57 = .ok (.iload_n 3, 1) := by decide +kernel
theorem dX2_countHolders_58 : decode cX2_countHolders 58 = .ok (.aaload, 1) := by decide +kernel
theorem dX2_countHolders_59 : decode cX2_countHolders 59 = .ok (.iload 4, 2) := by decide +kernel
theorem dX2_countHolders_61 : decode cX2_countHolders 61 = .ok (.invokevirtual 113, 3) := by decide +kernel
theorem dX2_countHolders_64 : decode cX2_countHolders 64 = .ok (.istore 5, 2) := by decide +kernel
theorem dX2_countHolders_66 : decode cX2_countHolders 66 = .ok (.iload 5, 2) := by decide +kernel
theorem dX2_countHolders_68 : decode cX2_countHolders 68 = .ok (.invokestatic 109, 3) := by decide +kernel
theorem dX2_countHolders_71 : decode cX2_countHolders 71 = .ok (.ifCond .eq 14, 3) := by decide +kernel
theorem dX2_countHolders_74 : decode cX2_countHolders 74 = .ok (.aload_n 0, 1) := by decide +kernel
theorem dX2_countHolders_75 : decode cX2_countHolders 75 = .ok (.getfield 37, 3) := by decide +kernel
theorem dX2_countHolders_78 : decode cX2_countHolders 78 = .ok (.iload 5, 2) := by decide +kernel
theorem dX2_countHolders_80 : decode cX2_countHolders 80 = .ok (.dup2, 1) := by decide +kernel
theorem dX2_countHolders_81 : decode cX2_countHolders 81 = .ok (.iaload, 1) := by decide +kernel
theorem dX2_countHolders_82 : decode cX2_countHolders 82 = .ok (.iconst 1, 1) := by decide +kernel
theorem dX2_countHolders_83 : decode cX2_countHolders 83 = .ok (.iadd, 1) := by decide +kernel
theorem dX2_countHolders_84 : decode cX2_countHolders 84 = .ok (.iastore, 1) := by decide +kernel
theorem dX2_countHolders_85 : decode cX2_countHolders 85 = .ok (.iinc 4 1, 3) := by decide +kernel
theorem dX2_countHolders_88 : decode cX2_countHolders 88 = .ok (.goto (-50), 3) := by decide +kernel
theorem dX2_countHolders_91 : decode cX2_countHolders 91 = .ok (.iinc 3 1, 3) := by decide +kernel
theorem dX2_countHolders_94 : decode cX2_countHolders 94 = .ok (.goto (-68), 3) := by decide +kernel
theorem dX2_countHolders_97 : decode cX2_countHolders 97 = .ok (.return_, 1) := by decide +kernel
theorem dX2_isWithin_0 : decode cX2_isWithin 0 = .ok (.iload_n 1, 1) := by decide +kernel
theorem dX2_isWithin_1 : decode cX2_isWithin 1 = .ok (.istore_n 3, 1) := by decide +kernel
theorem dX2_isWithin_2 : decode cX2_isWithin 2 = .ok (.iconst 0, 1) := by decide +kernel
theorem dX2_isWithin_3 : decode cX2_isWithin 3 = .ok (.istore 4, 2) := by decide +kernel
theorem dX2_isWithin_5 : decode cX2_isWithin 5 = .ok (.iload 4, 2) := by decide +kernel
theorem dX2_isWithin_7 : decode cX2_isWithin 7 = .ok (.bipush 32, 2) := by decide +kernel
theorem dX2_isWithin_9 : decode cX2_isWithin 9 = .ok (.if_icmp .ge 27, 3) := by decide +kernel
theorem dX2_isWithin_12 : decode cX2_isWithin 12 = .ok (.iload_n 3, 1) := by decide +kernel
theorem dX2_isWithin_13 : decode cX2_isWithin 13 = .ok (.iload_n 2, 1) := by decide +kernel
theorem dX2_isWithin_14 : decode cX2_isWithin 14 = .ok (.if_icmp .eq 22, 3) := by decide +kernel
theorem dX2_isWithin_17 : decode cX2_isWithin 17 = .ok (.iload_n 3, 1) := by decide +kernel
theorem dX2_isWithin_18 : decode cX2_isWithin 18 = .ok (.ifCond .eq 18, 3) := by decide +kernel
theorem dX2_isWithin_21 : decode cX2_isWithin 21 = .ok (.aload_n 0, 1) := by decide +kernel
theorem dX2_isWithin_22 : decode cX2_isWithin 22 = .ok (.iload_n 3, 1) := by decide +kernel
theorem dX2_isWithin_23 : decode cX2_isWithin 23 = .ok (.invokevirtual 46, 3) := by decide +kernel
theorem dX2_isWithin_26 : decode cX2_isWithin 26 = .ok (.getfield 81, 3) := by decide +kernel
theorem dX2_isWithin_29 : decode cX2_isWithin 29 = .ok (.istore_n 3, 1) := by decide +kernel
theorem dX2_isWithin_30 : decode cX2_isWithin 30 = .ok (.iinc 4 1, 3) := by decide +kernel
theorem dX2_isWithin_33 : decode cX2_isWithin 33 = .ok (.goto (-28), 3) := by decide +kernel
theorem dX2_isWithin_36 : decode cX2_isWithin 36 = .ok (.iload_n 3, 1) := by decide +kernel
theorem dX2_isWithin_37 : decode cX2_isWithin 37 = .ok (.iload_n 2, 1) := by decide +kernel
theorem dX2_isWithin_38 : decode cX2_isWithin 38 = .ok (.if_icmp .ne 7, 3) := by decide +kernel
theorem dX2_isWithin_41 : decode cX2_isWithin 41 = .ok (.iconst 1, 1) := by decide +kernel
theorem dX2_isWithin_42 : decode cX2_isWithin 42 = .ok (.goto 4, 3) := by decide +kernel
theorem dX2_isWithin_45 : decode cX2_isWithin 45 = .ok (.iconst 0, 1) := by decide +kernel
theorem dX2_isWithin_46 : decode cX2_isWithin 46 = .ok (.ireturn, 1) := by decide +kernel
theorem dX2_depth_0 : decode cX2_depth 0 = .ok (.iload_n 1, 1) := by decide +kernel
theorem dX2_depth_1 : decode cX2_depth 1 = .ok (.istore_n 2, 1) := by decide +kernel
theorem dX2_depth_2 : decode cX2_depth 2 = .ok (.iconst 0, 1) := by decide +kernel
theorem dX2_depth_3 : decode cX2_depth 3 = .ok (.istore_n 3, 1) := by decide +kernel
theorem dX2_depth_4 : decode cX2_depth 4 = .ok (.iload_n 3, 1) := by decide +kernel
theorem dX2_depth_5 : decode cX2_depth 5 = .ok (.bipush 32, 2) := by decide +kernel
theorem dX2_depth_7 : decode cX2_depth 7 = .ok (.if_icmp .ge 22, 3) := by decide +kernel
theorem dX2_depth_10 : decode cX2_depth 10 = .ok (.iload_n 2, 1) := by decide +kernel
theorem dX2_depth_11 : decode cX2_depth 11 = .ok (.ifCond .eq 18, 3) := by decide +kernel
theorem dX2_depth_14 : decode cX2_depth 14 = .ok (.aload_n 0, 1) := by decide +kernel
theorem dX2_depth_15 : decode cX2_depth 15 = .ok (.iload_n 2, 1) := by decide +kernel
theorem dX2_depth_16 : decode cX2_depth 16 = .ok (.invokevirtual 46, 3) := by decide +kernel
theorem dX2_depth_19 : decode cX2_depth 19 = .ok (.getfield 81, 3) := by decide +kernel
theorem dX2_depth_22 : decode cX2_depth 22 = .ok (.istore_n 2, 1) := by decide +kernel
theorem dX2_depth_23 : decode cX2_depth 23 = .ok (.iinc 3 1, 3) := by decide +kernel
theorem dX2_depth_26 : decode cX2_depth 26 = .ok (.goto (-22), 3) := by decide +kernel
theorem dX2_depth_29 : decode cX2_depth 29 = .ok (.iload_n 3, 1) := by decide +kernel
theorem dX2_depth_30 : decode cX2_depth 30 = .ok (.ireturn, 1) := by decide +kernel
theorem dX2_origin_0 : decode cX2_origin 0 = .ok (.iload_n 2, 1) := by decide +kernel
theorem dX2_origin_1 : decode cX2_origin 1 = .ok (.iconst (-1), 1) := by decide +kernel
theorem dX2_origin_2 : decode cX2_origin 2 = .ok (.if_icmp .ne 7, 3) := by decide +kernel
theorem dX2_origin_5 : decode cX2_origin 5 = .ok (.iconst 0, 1) := by decide +kernel
theorem dX2_origin_6 : decode cX2_origin 6 = .ok (.goto 4, 3) := by decide +kernel
theorem dX2_origin_9 : decode cX2_origin 9 = .ok (.iload_n 1, 1) := by decide +kernel
theorem dX2_origin_10 : decode cX2_origin 10 = .ok (.istore_n 3, 1) := by decide +kernel
theorem dX2_origin_11 : decode cX2_origin 11 = .ok (.iconst 0, 1) := by decide +kernel
theorem dX2_origin_12 : decode cX2_origin 12 = .ok (.istore 4, 2) := by decide +kernel
theorem dX2_origin_14 : decode cX2_origin 14 = .ok (.iload 4, 2) := by decide +kernel
theorem dX2_origin_16 : decode cX2_origin 16 = .ok (.iload_n 2, 1) := by decide +kernel
theorem dX2_origin_17 : decode cX2_origin 17 = .ok (.if_icmp .ge 18, 3) := by decide +kernel
theorem dX2_origin_20 : decode cX2_origin 20 = .ok (.aload_n 0, 1) := by decide +kernel
theorem dX2_origin_21 : decode cX2_origin 21 = .ok (.iload_n 3, 1) := by decide +kernel
theorem dX2_origin_22 : decode cX2_origin 22 = .ok (.invokevirtual 46, 3) := by decide +kernel
theorem dX2_origin_25 : decode cX2_origin 25 = .ok (.getfield 81, 3) := by decide +kernel
theorem dX2_origin_28 : decode cX2_origin 28 = .ok (.istore_n 3, 1) := by decide +kernel
theorem dX2_origin_29 : decode cX2_origin 29 = .ok (.iinc 4 1, 3) := by decide +kernel
theorem dX2_origin_32 : decode cX2_origin 32 = .ok (.goto (-18), 3) := by decide +kernel
theorem dX2_origin_35 : decode cX2_origin 35 = .ok (.iload_n 3, 1) := by decide +kernel
theorem dX2_origin_36 : decode cX2_origin 36 = .ok (.ireturn, 1) := by decide +kernel
theorem dX2_found_0 : decode cX2_found 0 = .ok (.iload_n 1, 1) := by decide +kernel
theorem dX2_found_1 : decode cX2_found 1 = .ok (.istore_n 3, 1) := by decide +kernel
theorem dX2_found_2 : decode cX2_found 2 = .ok (.iload_n 2, 1) := by decide +kernel
theorem dX2_found_3 : decode cX2_found 3 = .ok (.istore 4, 2) := by decide +kernel
theorem dX2_found_5 : decode cX2_found 5 = .ok (.iconst 0, 1) := by decide +kernel
theorem dX2_found_6 : decode cX2_found 6 = .ok (.istore 5, 2) := by decide +kernel
theorem dX2_found_8 : decode cX2_found 8 = .ok (.iconst 0, 1) := by decide +kernel
theorem dX2_found_9 : decode cX2_found 9 = .ok (.istore 6, 2) := by decide +kernel
theorem dX2_found_11 : decode cX2_found 11 = .ok (.iconst 0, 1) := by decide +kernel
theorem dX2_found_12 : decode cX2_found 12 = .ok (.istore 7, 2) := by decide +kernel
theorem dX2_found_14 : decode cX2_found 14 = .ok (.iload 7, 2) := by decide +kernel
theorem dX2_found_16 : decode cX2_found 16 = .ok (.bipush 16, 2) := by decide +kernel
theorem dX2_found_18 : decode cX2_found 18 = .ok (.if_icmp .gt 178, 3) := by decide +kernel
theorem dX2_found_21 : decode cX2_found 21 = .ok (.aload_n 0, 1) := by decide +kernel
theorem dX2_found_22 : decode cX2_found 22 = .ok (.iload_n 3, 1) := by decide +kernel
theorem dX2_found_23 : decode cX2_found 23 = .ok (.invokevirtual 46, 3) := by decide +kernel
theorem dX2_found_26 : decode cX2_found 26 = .ok (.getfield 43, 3) := by decide +kernel
theorem dX2_found_29 : decode cX2_found 29 = .ok (.iconst 2, 1) := by decide +kernel
theorem dX2_found_30 : decode cX2_found 30 = .ok (.if_icmp .eq 6, 3) := by decide +kernel
theorem dX2_found_33 : decode cX2_found 33 = .ok (.bipush (-3), 2) := by decide +kernel
theorem dX2_found_35 : decode cX2_found 35 = .ok (.ireturn, 1) := by decide +kernel
theorem dX2_found_36 : decode cX2_found 36 = .ok (.aload_n 0, 1) := by decide +kernel
theorem dX2_found_37 : decode cX2_found 37 = .ok (.iload_n 3, 1) := by decide +kernel
theorem dX2_found_38 : decode cX2_found 38 = .ok (.invokevirtual 46, 3) := by decide +kernel
theorem dX2_found_41 : decode cX2_found 41 = .ok (.iload 4, 2) := by decide +kernel
theorem dX2_found_43 : decode cX2_found 43 = .ok (.invokevirtual 183, 3) := by decide +kernel
theorem dX2_found_46 : decode cX2_found 46 = .ok (.istore 8, 2) := by decide +kernel
theorem dX2_found_48 : decode cX2_found 48 = .ok (.iload 8, 2) := by decide +kernel
theorem dX2_found_50 : decode cX2_found 50 = .ok (.iconst (-1), 1) := by decide +kernel
theorem dX2_found_51 : decode cX2_found 51 = .ok (.if_icmp .ne 5, 3) := by decide +kernel
theorem dX2_found_54 : decode cX2_found 54 = .ok (.iconst (-1), 1) := by decide +kernel
theorem dX2_found_55 : decode cX2_found 55 = .ok (.ireturn, 1) := by decide +kernel
theorem dX2_found_56 : decode cX2_found 56 = .ok (.aload_n 0, 1) := by decide +kernel
theorem dX2_found_57 : decode cX2_found 57 = .ok (.iload 8, 2) := by decide +kernel
theorem dX2_found_59 : decode cX2_found 59 = .ok (.invokevirtual 46, 3) := by decide +kernel
theorem dX2_found_62 : decode cX2_found 62 = .ok (.astore 9, 2) := by decide +kernel
theorem dX2_found_64 : decode cX2_found 64 = .ok (.aload 9, 2) := by decide +kernel
theorem dX2_found_66 : decode cX2_found 66 = .ok (.getfield 43, 3) := by decide +kernel
theorem dX2_found_69 : decode cX2_found 69 = .ok (.iconst 3, 1) := by decide +kernel
theorem dX2_found_70 : decode cX2_found 70 = .ok (.if_icmp .ne 87, 3) := by decide +kernel
theorem dX2_found_73 : decode cX2_found 73 = .ok (.iinc 5 1, 3) := by decide +kernel
theorem dX2_found_76 : decode cX2_found 76 = .ok (.iload 5, 2) := by decide +kernel
theorem dX2_found_78 : decode cX2_found 78 = .ok (.bipush 8, 2) := by decide +kernel
theorem dX2_found_80 : decode cX2_found 80 = .ok (.if_icmp .le 6, 3) := by decide +kernel
theorem dX2_found_83 : decode cX2_found 83 = .ok (.bipush (-6), 2) := by decide +kernel
theorem dX2_found_85 : decode cX2_found 85 = .ok (.ireturn, 1) := by decide +kernel
theorem dX2_found_86 : decode cX2_found 86 = .ok (.aload_n 0, 1) := by decide +kernel
theorem dX2_found_87 : decode cX2_found 87 = .ok (.iload_n 3, 1) := by decide +kernel
theorem dX2_found_88 : decode cX2_found 88 = .ok (.aload 9, 2) := by decide +kernel
theorem dX2_found_90 : decode cX2_found 90 = .ok (.getfield 186, 3) := by decide +kernel
theorem dX2_found_93 : decode cX2_found 93 = .ok (.invokevirtual 189, 3) := by decide +kernel
theorem dX2_found_96 : decode cX2_found 96 = .ok (.istore 8, 2) := by decide +kernel
theorem dX2_found_98 : decode cX2_found 98 = .ok (.aload 9, 2) := by decide +kernel
theorem dX2_found_100 : decode cX2_found 100 = .ok (.getfield 192, 3) := by decide +kernel
theorem dX2_found_103 : decode cX2_found 103 = .ok (.ifCond .eq 33, 3) := by decide +kernel
theorem dX2_found_106 : decode cX2_found 106 = .ok (.iload 6, 2) := by decide +kernel
theorem dX2_found_108 : decode cX2_found 108 = .ok (.ifCond .lt 28, 3) := by decide +kernel
theorem dX2_found_111 : decode cX2_found 111 = .ok (.iload 6, 2) := by decide +kernel
theorem dX2_found_113 : decode cX2_found 113 = .ok (.aload_n 0, 1) := by decide +kernel
theorem dX2_found_114 : decode cX2_found 114 = .ok (.getfield 40, 3) := by decide +kernel
theorem dX2_found_117 : decode cX2_found 117 = .ok (.arraylength, 1) := by decide +kernel
theorem dX2_found_118 : decode cX2_found 118 = .ok (.if_icmp .ge 18, 3) := by decide +kernel
theorem dX2_found_121 : decode cX2_found 121 = .ok (.aload_n 0, 1) := by decide +kernel
theorem dX2_found_122 : decode cX2_found 122 = .ok (.getfield 40, 3) := by decide +kernel
theorem dX2_found_125 : decode cX2_found 125 = .ok (.iload 6, 2) := by decide +kernel
theorem dX2_found_127 : decode cX2_found 127 = .ok (.aload 9, 2) := by decide +kernel
theorem dX2_found_129 : decode cX2_found 129 = .ok (.getfield 192, 3) := by decide +kernel
theorem dX2_found_132 : decode cX2_found 132 = .ok (.iastore, 1) := by decide +kernel
theorem dX2_found_133 : decode cX2_found 133 = .ok (.iinc 6 1, 3) := by decide +kernel
theorem dX2_found_136 : decode cX2_found 136 = .ok (.aload 9, 2) := by decide +kernel
theorem dX2_found_138 : decode cX2_found 138 = .ok (.getfield 195, 3) := by decide +kernel
theorem dX2_found_141 : decode cX2_found 141 = .ok (.ifCond .eq 16, 3) := by decide +kernel
theorem dX2_found_144 : decode cX2_found 144 = .ok (.iload 8, 2) := by decide +kernel
theorem dX2_found_146 : decode cX2_found 146 = .ok (.istore_n 3, 1) := by decide +kernel
theorem dX2_found_147 : decode cX2_found 147 = .ok (.aload 9, 2) := by decide +kernel
theorem dX2_found_149 : decode cX2_found 149 = .ok (.getfield 195, 3) := by decide +kernel
theorem dX2_found_152 : decode cX2_found 152 = .ok (.istore 4, 2) := by decide +kernel
theorem dX2_found_154 : decode cX2_found 154 = .ok (.goto 36, 3) := by decide +kernel
theorem dX2_found_157 : decode cX2_found 157 = .ok (.iload 6, 2) := by decide +kernel
theorem dX2_found_159 : decode cX2_found 159 = .ok (.ifCond .le 13, 3) := by decide +kernel
theorem dX2_found_162 : decode cX2_found 162 = .ok (.iload 6, 2) := by decide +kernel
theorem dX2_found_164 : decode cX2_found 164 = .ok (.aload_n 0, 1) := by decide +kernel
theorem dX2_found_165 : decode cX2_found 165 = .ok (.getfield 40, 3) := by decide +kernel
theorem dX2_found_168 : decode cX2_found 168 = .ok (.arraylength, 1) := by decide +kernel
theorem dX2_found_169 : decode cX2_found 169 = .ok (.if_icmp .le 6, 3) := by decide +kernel
theorem dX2_found_172 : decode cX2_found 172 = .ok (.iload 8, 2) := by decide +kernel
theorem dX2_found_174 : decode cX2_found 174 = .ok (.ireturn, 1) := by decide +kernel
theorem dX2_found_175 : decode cX2_found 175 = .ok (.iinc 6 (-1), 3) := by decide +kernel
theorem dX2_found_178 : decode cX2_found 178 = .ok (.iload 8, 2) := by decide +kernel
theorem dX2_found_180 : decode cX2_found 180 = .ok (.istore_n 3, 1) := by decide +kernel
theorem dX2_found_181 : decode cX2_found 181 = .ok (.aload_n 0, 1) := by decide +kernel
theorem dX2_found_182 : decode cX2_found 182 = .ok (.getfield 40, 3) := by decide +kernel
theorem dX2_found_185 : decode cX2_found 185 = .ok (.iload 6, 2) := by decide +kernel
theorem dX2_found_187 : decode cX2_found 187 = .ok (.iaload, 1) := by decide +kernel
theorem dX2_found_188 : decode cX2_found 188 = .ok (.istore 4, 2) := by decide +kernel
theorem dX2_found_190 : decode cX2_found 190 = .ok (.iinc 7 1, 3) := by decide +kernel
theorem dX2_found_193 : decode cX2_found 193 = .ok (.goto (-179), 3) := by decide +kernel
theorem dX2_found_196 : decode cX2_found 196 = .ok (.bipush (-6), 2) := by decide +kernel
theorem dX2_found_198 : decode cX2_found 198 = .ok (.ireturn, 1) := by decide +kernel
theorem dX3_init_0 : decode cX3_init 0 = .ok (.aload_n 0, 1) := by decide +kernel
theorem dX3_init_1 : decode cX3_init 1 = .ok (.invokespecial 1, 3) := by decide +kernel
theorem dX3_init_4 : decode cX3_init 4 = .ok (.aload_n 0, 1) := by decide +kernel
theorem dX3_init_5 : decode cX3_init 5 = .ok (.new 7, 3) := by decide +kernel
theorem dX3_init_8 : decode cX3_init 8 = .ok (.dup, 1) := by decide +kernel
theorem dX3_init_9 : decode cX3_init 9 = .ok (.invokespecial 9, 3) := by decide +kernel
theorem dX3_init_12 : decode cX3_init 12 = .ok (.putfield 10, 3) := by decide +kernel
theorem dX3_init_15 : decode cX3_init 15 = .ok (.aload_n 0, 1) := by decide +kernel
theorem dX3_init_16 : decode cX3_init 16 = .ok (.new 7, 3) := by decide +kernel
theorem dX3_init_19 : decode cX3_init 19 = .ok (.dup, 1) := by decide +kernel
theorem dX3_init_20 : decode cX3_init 20 = .ok (.invokespecial 9, 3) := by decide +kernel
theorem dX3_init_23 : decode cX3_init 23 = .ok (.putfield 16, 3) := by decide +kernel
theorem dX3_init_26 : decode cX3_init 26 = .ok (.aload_n 0, 1) := by decide +kernel
theorem dX3_init_27 : decode cX3_init 27 = .ok (.new 7, 3) := by decide +kernel
theorem dX3_init_30 : decode cX3_init 30 = .ok (.dup, 1) := by decide +kernel
theorem dX3_init_31 : decode cX3_init 31 = .ok (.invokespecial 9, 3) := by decide +kernel
theorem dX3_init_34 : decode cX3_init 34 = .ok (.putfield 19, 3) := by decide +kernel
theorem dX3_init_37 : decode cX3_init 37 = .ok (.aload_n 0, 1) := by decide +kernel
theorem dX3_init_38 : decode cX3_init 38 = .ok (.bipush 6, 2) := by decide +kernel
theorem dX3_init_40 : decode cX3_init 40 = .ok (.anewarray 22, 3) := by decide +kernel
theorem dX3_init_43 : decode cX3_init 43 = .ok (.putfield 24, 3) := by decide +kernel
theorem dX3_init_46 : decode cX3_init 46 = .ok (.aload_n 0, 1) := by decide +kernel
theorem dX3_init_47 : decode cX3_init 47 = .ok (.iconst 0, 1) := by decide +kernel
theorem dX3_init_48 : decode cX3_init 48 = .ok (.putfield 28, 3) := by decide +kernel
theorem dX3_init_51 : decode cX3_init 51 = .ok (.aload_n 0, 1) := by decide +kernel
theorem dX3_init_52 : decode cX3_init 52 = .ok (.iconst 0, 1) := by decide +kernel
theorem dX3_init_53 : decode cX3_init 53 = .ok (.putfield 32, 3) := by decide +kernel
theorem dX3_init_56 : decode cX3_init 56 = .ok (.aload_n 0, 1) := by decide +kernel
theorem dX3_init_57 : decode cX3_init 57 = .ok (.iconst 0, 1) := by decide +kernel
theorem dX3_init_58 : decode cX3_init 58 = .ok (.putfield 36, 3) := by decide +kernel
theorem dX3_init_61 : decode cX3_init 61 = .ok (.aload_n 0, 1) := by decide +kernel
theorem dX3_init_62 : decode cX3_init 62 = .ok (.iconst (-1), 1) := by decide +kernel
theorem dX3_init_63 : decode cX3_init 63 = .ok (.putfield 39, 3) := by decide +kernel
theorem dX3_init_66 : decode cX3_init 66 = .ok (.aload_n 0, 1) := by decide +kernel
theorem dX3_init_67 : decode cX3_init 67 = .ok (.iconst 0, 1) := by decide +kernel
theorem dX3_init_68 : decode cX3_init 68 = .ok (.putfield 42, 3) := by decide +kernel
theorem dX3_init_71 : decode cX3_init 71 = .ok (.iconst 0, 1) := by decide +kernel
theorem dX3_init_72 : decode cX3_init 72 = .ok (.istore_n 1, 1) := by decide +kernel
theorem dX3_init_73 : decode cX3_init 73 = .ok (.iload_n 1, 1) := by decide +kernel
theorem dX3_init_74 : decode cX3_init 74 = .ok (.aload_n 0, 1) := by decide +kernel
theorem dX3_init_75 : decode cX3_init 75 = .ok (.getfield 24, 3) := by decide +kernel
theorem dX3_init_78 : decode cX3_init 78 = .ok (.arraylength, 1) := by decide +kernel
theorem dX3_init_79 : decode cX3_init 79 = .ok (.if_icmp .ge 22, 3) := by decide +kernel
theorem dX3_init_82 : decode cX3_init 82 = .ok (.aload_n 0, 1) := by decide +kernel
theorem dX3_init_83 : decode cX3_init 83 = .ok (.getfield 24, 3) := by decide +kernel
theorem dX3_init_86 : decode cX3_init 86 = .ok (.iload_n 1, 1) := by decide +kernel
theorem dX3_init_87 : decode cX3_init 87 = .ok (.new 22, 3) := by decide +kernel
theorem dX3_init_90 : decode cX3_init 90 = .ok (.dup, 1) := by decide +kernel
theorem dX3_init_91 : decode cX3_init 91 = .ok (.invokespecial 45, 3) := by decide +kernel
theorem dX3_init_94 : decode cX3_init 94 = .ok (.aastore, 1) := by decide +kernel
theorem dX3_init_95 : decode cX3_init 95 = .ok (.iinc 1 1, 3) := by decide +kernel
theorem dX3_init_98 : decode cX3_init 98 = .ok (.goto (-25), 3) := by decide +kernel
theorem dX3_init_101 : decode cX3_init 101 = .ok (.return_, 1) := by decide +kernel
theorem dX3_makeFile_0 : decode cX3_makeFile 0 = .ok (.aload_n 0, 1) := by decide +kernel
theorem dX3_makeFile_1 : decode cX3_makeFile 1 = .ok (.iload_n 1, 1) := by decide +kernel
theorem dX3_makeFile_2 : decode cX3_makeFile 2 = .ok (.iload_n 2, 1) := by decide +kernel
theorem dX3_makeFile_3 : decode cX3_makeFile 3 = .ok (.invokevirtual 46, 3) := by decide +kernel
theorem dX3_makeFile_6 : decode cX3_makeFile 6 = .ok (.aload_n 0, 1) := by decide +kernel
theorem dX3_makeFile_7 : decode cX3_makeFile 7 = .ok (.iconst 1, 1) := by decide +kernel
theorem dX3_makeFile_8 : decode cX3_makeFile 8 = .ok (.iload_n 1, 1) := by decide +kernel
theorem dX3_makeFile_9 : decode cX3_makeFile 9 = .ok (.iload_n 2, 1) := by decide +kernel
theorem dX3_makeFile_10 : decode cX3_makeFile 10 = .ok (.invokevirtual 50, 3) := by decide +kernel
theorem dX3_makeFile_13 : decode cX3_makeFile 13 = .ok (.ireturn, 1) := by decide +kernel
theorem dX3_makeFolder_0 : decode cX3_makeFolder 0 = .ok (.aload_n 0, 1) := by decide +kernel
theorem dX3_makeFolder_1 : decode cX3_makeFolder 1 = .ok (.iload_n 1, 1) := by decide +kernel
theorem dX3_makeFolder_2 : decode cX3_makeFolder 2 = .ok (.iload_n 2, 1) := by decide +kernel
theorem dX3_makeFolder_3 : decode cX3_makeFolder 3 = .ok (.invokevirtual 46, 3) := by decide +kernel
theorem dX3_makeFolder_6 : decode cX3_makeFolder 6 = .ok (.aload_n 0, 1) := by decide +kernel
theorem dX3_makeFolder_7 : decode cX3_makeFolder 7 = .ok (.iconst 2, 1) := by decide +kernel
theorem dX3_makeFolder_8 : decode cX3_makeFolder 8 = .ok (.iload_n 1, 1) := by decide +kernel
theorem dX3_makeFolder_9 : decode cX3_makeFolder 9 = .ok (.iload_n 2, 1) := by decide +kernel
theorem dX3_makeFolder_10 : decode cX3_makeFolder 10 = .ok (.invokevirtual 50, 3) := by decide +kernel
theorem dX3_makeFolder_13 : decode cX3_makeFolder 13 = .ok (.ireturn, 1) := by decide +kernel
theorem dX3_makeLink_0 : decode cX3_makeLink 0 = .ok (.aload_n 0, 1) := by decide +kernel
theorem dX3_makeLink_1 : decode cX3_makeLink 1 = .ok (.iload_n 1, 1) := by decide +kernel
theorem dX3_makeLink_2 : decode cX3_makeLink 2 = .ok (.iload_n 2, 1) := by decide +kernel
theorem dX3_makeLink_3 : decode cX3_makeLink 3 = .ok (.invokevirtual 46, 3) := by decide +kernel
theorem dX3_makeLink_6 : decode cX3_makeLink 6 = .ok (.aload_n 0, 1) := by decide +kernel
theorem dX3_makeLink_7 : decode cX3_makeLink 7 = .ok (.iload_n 3, 1) := by decide +kernel
theorem dX3_makeLink_8 : decode cX3_makeLink 8 = .ok (.iconst (-1), 1) := by decide +kernel
theorem dX3_makeLink_9 : decode cX3_makeLink 9 = .ok (.iconst 3, 1) := by decide +kernel
theorem dX3_makeLink_10 : decode cX3_makeLink 10 = .ok (.invokevirtual 54, 3) := by decide +kernel
theorem dX3_makeLink_13 : decode cX3_makeLink 13 = .ok (.aload_n 0, 1) := by decide +kernel
theorem dX3_makeLink_14 : decode cX3_makeLink 14 = .ok (.iload 4, 2) := by decide +kernel
theorem dX3_makeLink_16 : decode cX3_makeLink 16 = .ok (.iconst 0, 1) := by decide +kernel
theorem dX3_makeLink_17 : decode cX3_makeLink 17 = .ok (.bipush 99, 2) := by decide +kernel
theorem dX3_makeLink_19 : decode cX3_makeLink 19 = .ok (.invokevirtual 54, 3) := by decide +kernel
theorem dX3_makeLink_22 : decode cX3_makeLink 22 = .ok (.aload_n 0, 1) := by decide +kernel
theorem dX3_makeLink_23 : decode cX3_makeLink 23 = .ok (.iload 5, 2) := by decide +kernel
theorem dX3_makeLink_25 : decode cX3_makeLink 25 = .ok (.iconst 0, 1) := by decide +kernel
theorem dX3_makeLink_26 : decode cX3_makeLink 26 = .ok (.iload 4, 2) := by decide +kernel
theorem dX3_makeLink_28 : decode cX3_makeLink 28 = .ok (.ifCond .ne 7, 3) := by decide +kernel
theorem dX3_makeLink_31 : decode cX3_makeLink 31 = .ok (.iconst 0, 1) := by decide +kernel
theorem dX3_makeLink_32 : decode cX3_makeLink 32 = .ok (.goto 5, 3) := by decide +kernel
theorem dX3_makeLink_35 : decode cX3_makeLink 35 = .ok (.bipush 99, 2) := by decide +kernel
theorem dX3_makeLink_37 : decode cX3_makeLink 37 = .ok (.invokevirtual 54, 3) := by decide +kernel
theorem dX3_makeLink_40 : decode cX3_makeLink 40 = .ok (.aload_n 0, 1) := by decide +kernel
theorem dX3_makeLink_41 : decode cX3_makeLink 41 = .ok (.iload_n 1, 1) := by decide +kernel
theorem dX3_makeLink_42 : decode cX3_makeLink 42 = .ok (.iload_n 2, 1) := by decide +kernel
theorem dX3_makeLink_43 : decode cX3_makeLink 43 = .ok (.invokevirtual 58, 3) := by decide +kernel
theorem dX3_makeLink_46 : decode cX3_makeLink 46 = .ok (.istore 6, 2) := by decide +kernel
theorem dX3_makeLink_48 : decode cX3_makeLink 48 = .ok (.iload 6, 2) := by decide +kernel
theorem dX3_makeLink_50 : decode cX3_makeLink 50 = .ok (.ifCond .eq 6, 3) := by decide +kernel
theorem dX3_makeLink_53 : decode cX3_makeLink 53 = .ok (.iload 6, 2) := by decide +kernel
theorem dX3_makeLink_55 : decode cX3_makeLink 55 = .ok (.ireturn, 1) := by decide +kernel
theorem dX3_makeLink_56 : decode cX3_makeLink 56 = .ok (.aload_n 0, 1) := by decide +kernel
theorem dX3_makeLink_57 : decode cX3_makeLink 57 = .ok (.invokevirtual 62, 3) := by decide +kernel
theorem dX3_makeLink_60 : decode cX3_makeLink 60 = .ok (.aload_n 0, 1) := by decide +kernel
theorem dX3_makeLink_61 : decode cX3_makeLink 61 = .ok (.getfield 16, 3) := by decide +kernel
theorem dX3_makeLink_64 : decode cX3_makeLink 64 = .ok (.iconst 3, 1) := by decide +kernel
theorem dX3_makeLink_65 : decode cX3_makeLink 65 = .ok (.iload_n 1, 1) := by decide +kernel
theorem dX3_makeLink_66 : decode cX3_makeLink 66 = .ok (.iload_n 2, 1) := by decide +kernel
theorem dX3_makeLink_67 : decode cX3_makeLink 67 = .ok (.invokevirtual 65, 3) := by decide +kernel
theorem dX3_makeLink_70 : decode cX3_makeLink 70 = .ok (.istore 7, 2) := by decide +kernel
theorem dX3_makeLink_72 : decode cX3_makeLink 72 = .ok (.aload_n 0, 1) := by decide +kernel
theorem dX3_makeLink_73 : decode cX3_makeLink 73 = .ok (.getfield 16, 3) := by decide +kernel
theorem dX3_makeLink_76 : decode cX3_makeLink 76 = .ok (.iload 7, 2) := by decide +kernel
theorem dX3_makeLink_78 : decode cX3_makeLink 78 = .ok (.invokevirtual 68, 3) := by decide +kernel
theorem dX3_makeLink_81 : decode cX3_makeLink 81 = .ok (.iload_n 3, 1) := by decide +kernel
theorem dX3_makeLink_82 : decode cX3_makeLink 82 = .ok (.iload 4, 2) := by decide +kernel
theorem dX3_makeLink_84 : decode cX3_makeLink 84 = .ok (.iload 5, 2) := by decide +kernel
theorem dX3_makeLink_86 : decode cX3_makeLink 86 = .ok (.invokevirtual 72, 3) := by decide +kernel
theorem dX3_makeLink_89 : decode cX3_makeLink 89 = .ok (.aload_n 0, 1) := by decide +kernel
theorem dX3_makeLink_90 : decode cX3_makeLink 90 = .ok (.iload 7, 2) := by decide +kernel
theorem dX3_makeLink_92 : decode cX3_makeLink 92 = .ok (.invokevirtual 77, 3) := by decide +kernel
theorem dX3_makeLink_95 : decode cX3_makeLink 95 = .ok (.ireturn, 1) := by decide +kernel
theorem dX3_cloneFile_0 : decode cX3_cloneFile 0 = .ok (.aload_n 0, 1) := by decide +kernel
theorem dX3_cloneFile_1 : decode cX3_cloneFile 1 = .ok (.invokevirtual 81, 3) := by decide +kernel
theorem dX3_cloneFile_4 : decode cX3_cloneFile 4 = .ok (.aload_n 0, 1) := by decide +kernel
theorem dX3_cloneFile_5 : decode cX3_cloneFile 5 = .ok (.iload_n 1, 1) := by decide +kernel
theorem dX3_cloneFile_6 : decode cX3_cloneFile 6 = .ok (.invokevirtual 84, 3) := by decide +kernel
theorem dX3_cloneFile_9 : decode cX3_cloneFile 9 = .ok (.aload_n 0, 1) := by decide +kernel
theorem dX3_cloneFile_10 : decode cX3_cloneFile 10 = .ok (.iload_n 3, 1) := by decide +kernel
theorem dX3_cloneFile_11 : decode cX3_cloneFile 11 = .ok (.invokevirtual 84, 3) := by decide +kernel
theorem dX3_cloneFile_14 : decode cX3_cloneFile 14 = .ok (.aload_n 0, 1) := by decide +kernel
theorem dX3_cloneFile_15 : decode cX3_cloneFile 15 = .ok (.iload_n 2, 1) := by decide +kernel
theorem dX3_cloneFile_16 : decode cX3_cloneFile 16 = .ok (.iconst 1, 1) := by decide +kernel
theorem dX3_cloneFile_17 : decode cX3_cloneFile 17 = .ok (.bipush 99, 2) := by decide +kernel
theorem dX3_cloneFile_19 : decode cX3_cloneFile 19 = .ok (.invokevirtual 54, 3) := by decide +kernel
theorem dX3_cloneFile_22 : decode cX3_cloneFile 22 = .ok (.aload_n 0, 1) := by decide +kernel
theorem dX3_cloneFile_23 : decode cX3_cloneFile 23 = .ok (.getfield 10, 3) := by decide +kernel
theorem dX3_cloneFile_26 : decode cX3_cloneFile 26 = .ok (.iload_n 3, 1) := by decide +kernel
theorem dX3_cloneFile_27 : decode cX3_cloneFile 27 = .ok (.invokevirtual 68, 3) := by decide +kernel
theorem dX3_cloneFile_30 : decode cX3_cloneFile 30 = .ok (.getfield 88, 3) := by decide +kernel
theorem dX3_cloneFile_33 : decode cX3_cloneFile 33 = .ok (.iconst 1, 1) := by decide +kernel
theorem dX3_cloneFile_34 : decode cX3_cloneFile 34 = .ok (.if_icmp .eq 6, 3) := by decide +kernel
theorem dX3_cloneFile_37 : decode cX3_cloneFile 37 = .ok (.bipush (-3), 2) := by decide +kernel
theorem dX3_cloneFile_39 : decode cX3_cloneFile 39 = .ok (.ireturn, 1) := by decide +kernel
theorem dX3_cloneFile_40 : decode cX3_cloneFile 40 = .ok (.aload_n 0, 1) := by decide +kernel
theorem dX3_cloneFile_41 : decode cX3_cloneFile 41 = .ok (.iload_n 1, 1) := by decide +kernel
theorem dX3_cloneFile_42 : decode cX3_cloneFile 42 = .ok (.iload_n 2, 1) := by decide +kernel
theorem dX3_cloneFile_43 : decode cX3_cloneFile 43 = .ok (.invokevirtual 58, 3) := by decide +kernel
theorem dX3_cloneFile_46 : decode cX3_cloneFile 46 = .ok (.istore 4, 2) := by decide +kernel
theorem dX3_cloneFile_48 : decode cX3_cloneFile 48 = .ok (.iload 4, 2) := by decide +kernel
theorem dX3_cloneFile_50 : decode cX3_cloneFile 50 = .ok (.ifCond .eq 6, 3) := by decide +kernel
theorem dX3_cloneFile_53 : decode cX3_cloneFile 53 = .ok (.iload 4, 2) := by decide +kernel
theorem dX3_cloneFile_55 : decode cX3_cloneFile 55 = .ok (.ireturn, 1) := by decide +kernel
theorem dX3_cloneFile_56 : decode cX3_cloneFile 56 = .ok (.aload_n 0, 1) := by decide +kernel
theorem dX3_cloneFile_57 : decode cX3_cloneFile 57 = .ok (.invokevirtual 62, 3) := by decide +kernel
theorem dX3_cloneFile_60 : decode cX3_cloneFile 60 = .ok (.aload_n 0, 1) := by decide +kernel
theorem dX3_cloneFile_61 : decode cX3_cloneFile 61 = .ok (.getfield 16, 3) := by decide +kernel
theorem dX3_cloneFile_64 : decode cX3_cloneFile 64 = .ok (.iconst 1, 1) := by decide +kernel
theorem dX3_cloneFile_65 : decode cX3_cloneFile 65 = .ok (.iload_n 1, 1) := by decide +kernel
theorem dX3_cloneFile_66 : decode cX3_cloneFile 66 = .ok (.iload_n 2, 1) := by decide +kernel
theorem dX3_cloneFile_67 : decode cX3_cloneFile 67 = .ok (.invokevirtual 65, 3) := by decide +kernel
theorem dX3_cloneFile_70 : decode cX3_cloneFile 70 = .ok (.istore 5, 2) := by decide +kernel
theorem dX3_cloneFile_72 : decode cX3_cloneFile 72 = .ok (.aload_n 0, 1) := by decide +kernel
theorem dX3_cloneFile_73 : decode cX3_cloneFile 73 = .ok (.getfield 16, 3) := by decide +kernel
theorem dX3_cloneFile_76 : decode cX3_cloneFile 76 = .ok (.aload_n 0, 1) := by decide +kernel
theorem dX3_cloneFile_77 : decode cX3_cloneFile 77 = .ok (.getfield 16, 3) := by decide +kernel
theorem dX3_cloneFile_80 : decode cX3_cloneFile 80 = .ok (.iload 5, 2) := by decide +kernel
theorem dX3_cloneFile_82 : decode cX3_cloneFile 82 = .ok (.invokevirtual 68, 3) := by decide +kernel
theorem dX3_cloneFile_85 : decode cX3_cloneFile 85 = .ok (.aload_n 0, 1) := by decide +kernel
theorem dX3_cloneFile_86 : decode cX3_cloneFile 86 = .ok (.getfield 16, 3) := by decide +kernel
theorem dX3_cloneFile_89 : decode cX3_cloneFile 89 = .ok (.iload_n 3, 1) := by decide +kernel
theorem dX3_cloneFile_90 : decode cX3_cloneFile 90 = .ok (.invokevirtual 68, 3) := by decide +kernel
theorem dX3_cloneFile_93 : decode cX3_cloneFile 93 = .ok (.invokevirtual 91, 3) := by decide +kernel
theorem dX3_cloneFile_96 : decode cX3_cloneFile 96 = .ok (.aload_n 0, 1) := by decide +kernel
theorem dX3_cloneFile_97 : decode cX3_cloneFile 97 = .ok (.iload 5, 2) := by decide +kernel
theorem dX3_cloneFile_99 : decode cX3_cloneFile 99 = .ok (.invokevirtual 77, 3) := by decide +kernel
theorem dX3_cloneFile_102 : decode cX3_cloneFile 102 = .ok (.ireturn, 1) := by decide +kernel
theorem dX3_addName_0 : decode cX3_addName 0 = .ok (.aload_n 0, 1) := by decide +kernel
theorem dX3_addName_1 : decode cX3_addName 1 = .ok (.invokevirtual 81, 3) := by decide +kernel
theorem dX3_addName_4 : decode cX3_addName 4 = .ok (.aload_n 0, 1) := by decide +kernel
theorem dX3_addName_5 : decode cX3_addName 5 = .ok (.iload_n 1, 1) := by decide +kernel
theorem dX3_addName_6 : decode cX3_addName 6 = .ok (.invokevirtual 84, 3) := by decide +kernel
theorem dX3_addName_9 : decode cX3_addName 9 = .ok (.aload_n 0, 1) := by decide +kernel
theorem dX3_addName_10 : decode cX3_addName 10 = .ok (.iload_n 3, 1) := by decide +kernel
theorem dX3_addName_11 : decode cX3_addName 11 = .ok (.invokevirtual 84, 3) := by decide +kernel
theorem dX3_addName_14 : decode cX3_addName 14 = .ok (.aload_n 0, 1) := by decide +kernel
theorem dX3_addName_15 : decode cX3_addName 15 = .ok (.iload_n 2, 1) := by decide +kernel
theorem dX3_addName_16 : decode cX3_addName 16 = .ok (.iconst 1, 1) := by decide +kernel
theorem dX3_addName_17 : decode cX3_addName 17 = .ok (.bipush 99, 2) := by decide +kernel
theorem dX3_addName_19 : decode cX3_addName 19 = .ok (.invokevirtual 54, 3) := by decide +kernel
theorem dX3_addName_22 : decode cX3_addName 22 = .ok (.aload_n 0, 1) := by decide +kernel
theorem dX3_addName_23 : decode cX3_addName 23 = .ok (.getfield 10, 3) := by decide +kernel
theorem dX3_addName_26 : decode cX3_addName 26 = .ok (.iload_n 1, 1) := by decide +kernel
theorem dX3_addName_27 : decode cX3_addName 27 = .ok (.invokevirtual 68, 3) := by decide +kernel
theorem dX3_addName_30 : decode cX3_addName 30 = .ok (.astore 4, 2) := by decide +kernel
theorem dX3_addName_32 : decode cX3_addName 32 = .ok (.aload_n 0, 1) := by decide +kernel
theorem dX3_addName_33 : decode cX3_addName 33 = .ok (.getfield 10, 3) := by decide +kernel
theorem dX3_addName_36 : decode cX3_addName 36 = .ok (.iload_n 3, 1) := by decide +kernel
theorem dX3_addName_37 : decode cX3_addName 37 = .ok (.invokevirtual 68, 3) := by decide +kernel
theorem dX3_addName_40 : decode cX3_addName 40 = .ok (.astore 5, 2) := by decide +kernel
theorem dX3_addName_42 : decode cX3_addName 42 = .ok (.aload 4, 2) := by decide +kernel
theorem dX3_addName_44 : decode cX3_addName 44 = .ok (.getfield 88, 3) := by decide +kernel
theorem dX3_addName_47 : decode cX3_addName 47 = .ok (.iconst 2, 1) := by decide +kernel
theorem dX3_addName_48 : decode cX3_addName 48 = .ok (.if_icmp .ne 12, 3) := by decide +kernel
theorem dX3_addName_51 : decode cX3_addName 51 = .ok (.aload 5, 2) := by decide +kernel
theorem dX3_addName_53 : decode cX3_addName 53 = .ok (.getfield 88, 3) := by decide +kernel
theorem dX3_addName_56 : decode cX3_addName 56 = .ok (.iconst 2, 1) := by decide +kernel
theorem dX3_addName_57 : decode cX3_addName 57 = .ok (.if_icmp .ne 6, 3) := by decide +kernel
theorem dX3_addName_60 : decode cX3_addName 60 = .ok (.bipush (-3), 2) := by decide +kernel
theorem dX3_addName_62 : decode cX3_addName 62 = .ok (.ireturn, 1) := by decide +kernel
theorem dX3_addName_63 : decode cX3_addName 63 = .ok (.aload 5, 2) := by decide +kernel
theorem dX3_addName_65 : decode cX3_addName 65 = .ok (.getfield 95, 3) := by decide +kernel
theorem dX3_addName_68 : decode cX3_addName 68 = .ok (.ifCond .ne 5, 3) := by decide +kernel
theorem dX3_addName_71 : decode cX3_addName 71 = .ok (.iconst (-1), 1) := by decide +kernel
theorem dX3_addName_72 : decode cX3_addName 72 = .ok (.ireturn, 1) := by decide +kernel
theorem dX3_addName_73 : decode cX3_addName 73 = .ok (.aload 4, 2) := by decide +kernel
theorem dX3_addName_75 : decode cX3_addName 75 = .ok (.iload_n 2, 1) := by decide +kernel
theorem dX3_addName_76 : decode cX3_addName 76 = .ok (.invokevirtual 98, 3) := by decide +kernel
theorem dX3_addName_79 : decode cX3_addName 79 = .ok (.iconst (-1), 1) := by decide +kernel
theorem dX3_addName_80 : decode cX3_addName 80 = .ok (.if_icmp .eq 6, 3) := by decide +kernel
theorem dX3_addName_83 : decode cX3_addName 83 = .ok (.bipush (-2), 2) := by decide +kernel
theorem dX3_addName_85 : decode cX3_addName 85 = .ok (.ireturn, 1) := by decide +kernel
theorem dX3_addName_86 : decode cX3_addName 86 = .ok (.aload 4, 2) := by decide +kernel
theorem dX3_addName_88 : decode cX3_addName 88 = .ok (.getfield 101, 3) := by decide +kernel
theorem dX3_addName_91 : decode cX3_addName 91 = .ok (.bipush 12, 2) := by decide +kernel
theorem dX3_addName_93 : decode cX3_addName 93 = .ok (.if_icmp .ge 13, 3) := by decide +kernel
theorem dX3_addName_96 : decode cX3_addName 96 = .ok (.aload 5, 2) := by decide +kernel
theorem dX3_addName_98 : decode cX3_addName 98 = .ok (.getfield 95, 3) := by decide +kernel
theorem dX3_addName_101 : decode cX3_addName 101 = .ok (.bipush 6, 2) := by decide +kernel
theorem dX3_addName_103 : decode cX3_addName 103 = .ok (.if_icmp .lt 6, 3) := by decide +kernel
theorem dX3_addName_106 : decode cX3_addName 106 = .ok (.bipush (-5), 2) := by decide +kernel
theorem dX3_addName_108 : decode cX3_addName 108 = .ok (.ireturn, 1) := by decide +kernel
theorem dX3_addName_109 : decode cX3_addName 109 = .ok (.aload_n 0, 1) := by decide +kernel
theorem dX3_addName_110 : decode cX3_addName 110 = .ok (.invokevirtual 62, 3) := by decide +kernel
theorem dX3_addName_113 : decode cX3_addName 113 = .ok (.aload_n 0, 1) := by decide +kernel
theorem dX3_addName_114 : decode cX3_addName 114 = .ok (.getfield 16, 3) := by decide +kernel
theorem dX3_addName_117 : decode cX3_addName 117 = .ok (.iload_n 1, 1) := by decide +kernel
theorem dX3_addName_118 : decode cX3_addName 118 = .ok (.iload_n 2, 1) := by decide +kernel
theorem dX3_addName_119 : decode cX3_addName 119 = .ok (.iload_n 3, 1) := by decide +kernel
theorem dX3_addName_120 : decode cX3_addName 120 = .ok (.invokevirtual 104, 3) := by decide +kernel
theorem dX3_addName_123 : decode cX3_addName 123 = .ok (.aload_n 0, 1) := by decide +kernel
theorem dX3_addName_124 : decode cX3_addName 124 = .ok (.aload_n 0, 1) := by decide +kernel
theorem dX3_addName_125 : decode cX3_addName 125 = .ok (.getfield 16, 3) := by decide +kernel
theorem dX3_addName_128 : decode cX3_addName 128 = .ok (.iload_n 3, 1) := by decide +kernel
theorem dX3_addName_129 : decode cX3_addName 129 = .ok (.invokevirtual 68, 3) := by decide +kernel
theorem dX3_addName_132 : decode cX3_addName 132 = .ok (.getfield 95, 3) := by decide +kernel
theorem dX3_addName_135 : decode cX3_addName 135 = .ok (.invokevirtual 77, 3) := by decide +kernel
theorem dX3_addName_138 : decode cX3_addName 138 = .ok (.ireturn, 1) := by decide +kernel
theorem dX3_unlink_0 : decode cX3_unlink 0 = .ok (.aload_n 0, 1) := by decide +kernel
theorem dX3_unlink_1 : decode cX3_unlink 1 = .ok (.iload_n 1, 1) := by decide +kernel
theorem dX3_unlink_2 : decode cX3_unlink 2 = .ok (.iload_n 2, 1) := by decide +kernel
theorem dX3_unlink_3 : decode cX3_unlink 3 = .ok (.invokevirtual 46, 3) := by decide +kernel
theorem dX3_unlink_6 : decode cX3_unlink 6 = .ok (.aload_n 0, 1) := by decide +kernel
theorem dX3_unlink_7 : decode cX3_unlink 7 = .ok (.getfield 10, 3) := by decide +kernel
theorem dX3_unlink_10 : decode cX3_unlink 10 = .ok (.iload_n 1, 1) := by decide +kernel
theorem dX3_unlink_11 : decode cX3_unlink 11 = .ok (.invokevirtual 68, 3) := by decide +kernel
theorem dX3_unlink_14 : decode cX3_unlink 14 = .ok (.getfield 88, 3) := by decide +kernel
theorem dX3_unlink_17 : decode cX3_unlink 17 = .ok (.iconst 2, 1) := by decide +kernel
theorem dX3_unlink_18 : decode cX3_unlink 18 = .ok (.if_icmp .eq 6, 3) := by decide +kernel
theorem dX3_unlink_21 : decode cX3_unlink 21 = .ok (.bipush (-3), 2) := by decide +kernel
theorem dX3_unlink_23 : decode cX3_unlink 23 = .ok (.ireturn, 1) := by decide +kernel
theorem dX3_unlink_24 : decode cX3_unlink 24 = .ok (.aload_n 0, 1) := by decide +kernel
theorem dX3_unlink_25 : decode cX3_unlink 25 = .ok (.getfield 10, 3) := by decide +kernel
theorem dX3_unlink_28 : decode cX3_unlink 28 = .ok (.iload_n 1, 1) := by decide +kernel
theorem dX3_unlink_29 : decode cX3_unlink 29 = .ok (.invokevirtual 68, 3) := by decide +kernel
theorem dX3_unlink_32 : decode cX3_unlink 32 = .ok (.iload_n 2, 1) := by decide +kernel
theorem dX3_unlink_33 : decode cX3_unlink 33 = .ok (.invokevirtual 98, 3) := by decide +kernel
theorem dX3_unlink_36 : decode cX3_unlink 36 = .ok (.istore_n 3, 1) := by decide +kernel
theorem dX3_unlink_37 : decode cX3_unlink 37 = .ok (.iload_n 3, 1) := by decide +kernel
theorem dX3_unlink_38 : decode cX3_unlink 38 = .ok (.iconst (-1), 1) := by decide +kernel
theorem dX3_unlink_39 : decode cX3_unlink 39 = .ok (.if_icmp .ne 5, 3) := by decide +kernel
theorem dX3_unlink_42 : decode cX3_unlink 42 = .ok (.iconst (-1), 1) := by decide +kernel
theorem dX3_unlink_43 : decode cX3_unlink 43 = .ok (.ireturn, 1) := by decide +kernel
theorem dX3_unlink_44 : decode cX3_unlink 44 = .ok (.aload_n 0, 1) := by decide +kernel
theorem dX3_unlink_45 : decode cX3_unlink 45 = .ok (.getfield 10, 3) := by decide +kernel
theorem dX3_unlink_48 : decode cX3_unlink 48 = .ok (.iload_n 3, 1) := by decide +kernel
theorem dX3_unlink_49 : decode cX3_unlink 49 = .ok (.invokevirtual 68, 3) := by decide +kernel
theorem dX3_unlink_52 : decode cX3_unlink 52 = .ok (.getfield 88, 3) := by decide +kernel
theorem dX3_unlink_55 : decode cX3_unlink 55 = .ok (.iconst 2, 1) := by decide +kernel
theorem dX3_unlink_56 : decode cX3_unlink 56 = .ok (.if_icmp .ne 6, 3) := by decide +kernel
theorem dX3_unlink_59 : decode cX3_unlink 59 = .ok (.bipush (-3), 2) := by decide +kernel
theorem dX3_unlink_61 : decode cX3_unlink 61 = .ok (.ireturn, 1) := by decide +kernel
theorem dX3_unlink_62 : decode cX3_unlink 62 = .ok (.aload_n 0, 1) := by decide +kernel
theorem dX3_unlink_63 : decode cX3_unlink 63 = .ok (.invokevirtual 62, 3) := by decide +kernel
theorem dX3_unlink_66 : decode cX3_unlink 66 = .ok (.aload_n 0, 1) := by decide +kernel
theorem dX3_unlink_67 : decode cX3_unlink 67 = .ok (.iload_n 1, 1) := by decide +kernel
theorem dX3_unlink_68 : decode cX3_unlink 68 = .ok (.iload_n 2, 1) := by decide +kernel
theorem dX3_unlink_69 : decode cX3_unlink 69 = .ok (.invokevirtual 107, 3) := by decide +kernel
theorem dX3_unlink_72 : decode cX3_unlink 72 = .ok (.aload_n 0, 1) := by decide +kernel
theorem dX3_unlink_73 : decode cX3_unlink 73 = .ok (.aload_n 0, 1) := by decide +kernel
theorem dX3_unlink_74 : decode cX3_unlink 74 = .ok (.getfield 16, 3) := by decide +kernel
theorem dX3_unlink_77 : decode cX3_unlink 77 = .ok (.iload_n 3, 1) := by decide +kernel
theorem dX3_unlink_78 : decode cX3_unlink 78 = .ok (.invokevirtual 68, 3) := by decide +kernel
theorem dX3_unlink_81 : decode cX3_unlink 81 = .ok (.getfield 95, 3) := by decide +kernel
theorem dX3_unlink_84 : decode cX3_unlink 84 = .ok (.invokevirtual 77, 3) := by decide +kernel
theorem dX3_unlink_87 : decode cX3_unlink 87 = .ok (.ireturn, 1) := by decide +kernel
theorem dX3_removeFolder_0 : decode cX3_removeFolder 0 = .ok (.aload_n 0, 1) := by decide +kernel
theorem dX3_removeFolder_1 : decode cX3_removeFolder 1 = .ok (.iload_n 1, 1) := by decide +kernel
theorem dX3_removeFolder_2 : decode cX3_removeFolder 2 = .ok (.iload_n 2, 1) := by decide +kernel
theorem dX3_removeFolder_3 : decode cX3_removeFolder 3 = .ok (.invokevirtual 46, 3) := by decide +kernel
theorem dX3_removeFolder_6 : decode cX3_removeFolder 6 = .ok (.aload_n 0, 1) := by decide +kernel
theorem dX3_removeFolder_7 : decode cX3_removeFolder 7 = .ok (.getfield 10, 3) := by decide +kernel
theorem dX3_removeFolder_10 : decode cX3_removeFolder 10 = .ok (.iload_n 1, 1) := by decide +kernel
theorem dX3_removeFolder_11 : decode cX3_removeFolder 11 = .ok (.invokevirtual 68, 3) := by decide +kernel
theorem dX3_removeFolder_14 : decode cX3_removeFolder 14 = .ok (.getfield 88, 3) := by decide +kernel
theorem dX3_removeFolder_17 : decode cX3_removeFolder 17 = .ok (.iconst 2, 1) := by decide +kernel
theorem dX3_removeFolder_18 : decode cX3_removeFolder 18 = .ok (.if_icmp .eq 6, 3) := by decide +kernel
theorem dX3_removeFolder_21 : decode cX3_removeFolder 21 = .ok (.bipush (-3), 2) := by decide +kernel
theorem dX3_removeFolder_23 : decode cX3_removeFolder 23 = .ok (.ireturn, 1) := by decide +kernel
theorem dX3_removeFolder_24 : decode cX3_removeFolder 24 = .ok (.aload_n 0, 1) := by decide +kernel
theorem dX3_removeFolder_25 : decode cX3_removeFolder 25 = .ok (.getfield 10, 3) := by decide +kernel
theorem dX3_removeFolder_28 : decode cX3_removeFolder 28 = .ok (.iload_n 1, 1) := by decide +kernel
theorem dX3_removeFolder_29 : decode cX3_removeFolder 29 = .ok (.invokevirtual 68, 3) := by decide +kernel
theorem dX3_removeFolder_32 : decode cX3_removeFolder 32 = .ok (.iload_n 2, 1) := by decide +kernel
theorem dX3_removeFolder_33 : decode cX3_removeFolder 33 = .ok (.invokevirtual 98, 3) := by decide +kernel
theorem dX3_removeFolder_36 : decode cX3_removeFolder 36 = .ok (.istore_n 3, 1) := by decide +kernel
theorem dX3_removeFolder_37 : decode cX3_removeFolder 37 = .ok (.iload_n 3, 1) := by decide +kernel
theorem dX3_removeFolder_38 : decode cX3_removeFolder 38 = .ok (.iconst (-1), 1) := by decide +kernel
theorem dX3_removeFolder_39 : decode cX3_removeFolder 39 = .ok (.if_icmp .ne 5, 3) := by decide +kernel
theorem dX3_removeFolder_42 : decode cX3_removeFolder 42 = .ok (.iconst (-1), 1) := by decide +kernel
theorem dX3_removeFolder_43 : decode cX3_removeFolder 43 = .ok (.ireturn, 1) := by decide +kernel
theorem dX3_removeFolder_44 : decode cX3_removeFolder 44 = .ok (.aload_n 0, 1) := by decide +kernel
theorem dX3_removeFolder_45 : decode cX3_removeFolder 45 = .ok (.getfield 10, 3) := by decide +kernel
theorem dX3_removeFolder_48 : decode cX3_removeFolder 48 = .ok (.iload_n 3, 1) := by decide +kernel
theorem dX3_removeFolder_49 : decode cX3_removeFolder 49 = .ok (.invokevirtual 68, 3) := by decide +kernel
theorem dX3_removeFolder_52 : decode cX3_removeFolder 52 = .ok (.getfield 88, 3) := by decide +kernel
theorem dX3_removeFolder_55 : decode cX3_removeFolder 55 = .ok (.iconst 2, 1) := by decide +kernel
theorem dX3_removeFolder_56 : decode cX3_removeFolder 56 = .ok (.if_icmp .eq 6, 3) := by decide +kernel
theorem dX3_removeFolder_59 : decode cX3_removeFolder 59 = .ok (.bipush (-3), 2) := by decide +kernel
theorem dX3_removeFolder_61 : decode cX3_removeFolder 61 = .ok (.ireturn, 1) := by decide +kernel
theorem dX3_removeFolder_62 : decode cX3_removeFolder 62 = .ok (.aload_n 0, 1) := by decide +kernel
theorem dX3_removeFolder_63 : decode cX3_removeFolder 63 = .ok (.getfield 10, 3) := by decide +kernel
theorem dX3_removeFolder_66 : decode cX3_removeFolder 66 = .ok (.iload_n 3, 1) := by decide +kernel
theorem dX3_removeFolder_67 : decode cX3_removeFolder 67 = .ok (.invokevirtual 68, 3) := by decide +kernel
theorem dX3_removeFolder_70 : decode cX3_removeFolder 70 = .ok (.getfield 101, 3) := by decide +kernel
theorem dX3_removeFolder_73 : decode cX3_removeFolder 73 = .ok (.ifCond .le 6, 3) := by decide +kernel
theorem dX3_removeFolder_76 : decode cX3_removeFolder 76 = .ok (.bipush (-4), 2) := by decide +kernel
theorem dX3_removeFolder_78 : decode cX3_removeFolder 78 = .ok (.ireturn, 1) := by decide +kernel
theorem dX3_removeFolder_79 : decode cX3_removeFolder 79 = .ok (.aload_n 0, 1) := by decide +kernel
theorem dX3_removeFolder_80 : decode cX3_removeFolder 80 = .ok (.invokevirtual 62, 3) := by decide +kernel
theorem dX3_removeFolder_83 : decode cX3_removeFolder 83 = .ok (.aload_n 0, 1) := by decide +kernel
theorem dX3_removeFolder_84 : decode cX3_removeFolder 84 = .ok (.iload_n 1, 1) := by decide +kernel
theorem dX3_removeFolder_85 : decode cX3_removeFolder 85 = .ok (.iload_n 2, 1) := by decide +kernel
theorem dX3_removeFolder_86 : decode cX3_removeFolder 86 = .ok (.invokevirtual 107, 3) := by decide +kernel
theorem dX3_removeFolder_89 : decode cX3_removeFolder 89 = .ok (.aload_n 0, 1) := by decide +kernel
theorem dX3_removeFolder_90 : decode cX3_removeFolder 90 = .ok (.iload_n 3, 1) := by decide +kernel
theorem dX3_removeFolder_91 : decode cX3_removeFolder 91 = .ok (.invokevirtual 77, 3) := by decide +kernel
theorem dX3_removeFolder_94 : decode cX3_removeFolder 94 = .ok (.ireturn, 1) := by decide +kernel
theorem dX3_rename_0 : decode cX3_rename 0 = .ok (.aload_n 0, 1) := by decide +kernel
theorem dX3_rename_1 : decode cX3_rename 1 = .ok (.iload_n 1, 1) := by decide +kernel
theorem dX3_rename_2 : decode cX3_rename 2 = .ok (.iload_n 2, 1) := by decide +kernel
theorem dX3_rename_3 : decode cX3_rename 3 = .ok (.iload_n 3, 1) := by decide +kernel
theorem dX3_rename_4 : decode cX3_rename 4 = .ok (.iload 4, 2) := by decide +kernel
theorem dX3_rename_6 : decode cX3_rename 6 = .ok (.invokevirtual 110, 3) := by decide +kernel
theorem dX3_rename_9 : decode cX3_rename 9 = .ok (.aload_n 0, 1) := by decide +kernel
theorem dX3_rename_10 : decode cX3_rename 10 = .ok (.getfield 10, 3) := by decide +kernel
theorem dX3_rename_13 : decode cX3_rename 13 = .ok (.iload_n 1, 1) := by decide +kernel
theorem dX3_rename_14 : decode cX3_rename 14 = .ok (.invokevirtual 68, 3) := by decide +kernel
theorem dX3_rename_17 : decode cX3_rename 17 = .ok (.getfield 88, 3) := by decide +kernel
theorem dX3_rename_20 : decode cX3_rename 20 = .ok (.iconst 2, 1) := by decide +kernel
theorem dX3_rename_21 : decode cX3_rename 21 = .ok (.if_icmp .ne 18, 3) := by decide +kernel
theorem dX3_rename_24 : decode cX3_rename 24 = .ok (.aload_n 0, 1) := by decide +kernel
theorem dX3_rename_25 : decode cX3_rename 25 = .ok (.getfield 10, 3) := by decide +kernel
theorem dX3_rename_28 : decode cX3_rename 28 = .ok (.iload_n 3, 1) := by decide +kernel
theorem dX3_rename_29 : decode cX3_rename 29 = .ok (.invokevirtual 68, 3) := by decide +kernel
theorem dX3_rename_32 : decode cX3_rename 32 = .ok (.getfield 88, 3) := by decide +kernel
theorem dX3_rename_35 : decode cX3_rename 35 = .ok (.iconst 2, 1) := by decide +kernel
theorem dX3_rename_36 : decode cX3_rename 36 = .ok (.if_icmp .eq 6, 3) := by decide +kernel
theorem dX3_rename_39 : decode cX3_rename 39 = .ok (.bipush (-3), 2) := by decide +kernel
theorem dX3_rename_41 : decode cX3_rename 41 = .ok (.ireturn, 1) := by decide +kernel
theorem dX3_rename_42 : decode cX3_rename 42 = .ok (.aload_n 0, 1) := by decide +kernel
theorem dX3_rename_43 : decode cX3_rename 43 = .ok (.getfield 10, 3) := by decide +kernel
theorem dX3_rename_46 : decode cX3_rename 46 = .ok (.iload_n 1, 1) := by decide +kernel
theorem dX3_rename_47 : decode cX3_rename 47 = .ok (.invokevirtual 68, 3) := by decide +kernel
theorem dX3_rename_50 : decode cX3_rename 50 = .ok (.iload_n 2, 1) := by decide +kernel
theorem dX3_rename_51 : decode cX3_rename 51 = .ok (.invokevirtual 98, 3) := by decide +kernel
theorem dX3_rename_54 : decode cX3_rename 54 = .ok (.istore 5, 2) := by decide +kernel
theorem dX3_rename_56 : decode cX3_rename 56 = .ok (.iload 5, 2) := by decide +kernel
theorem dX3_rename_58 : decode cX3_rename 58 = .ok (.iconst (-1), 1) := by decide +kernel
theorem dX3_rename_59 : decode cX3_rename 59 = .ok (.if_icmp .ne 5, 3) := by decide +kernel
theorem dX3_rename_62 : decode cX3_rename 62 = .ok (.iconst (-1), 1) := by decide +kernel
theorem dX3_rename_63 : decode cX3_rename 63 = .ok (.ireturn, 1) := by decide +kernel
theorem dX3_rename_64 : decode cX3_rename 64 = .ok (.aload_n 0, 1) := by decide +kernel
theorem dX3_rename_65 : decode cX3_rename 65 = .ok (.getfield 10, 3) := by decide +kernel
theorem dX3_rename_68 : decode cX3_rename 68 = .ok (.iload_n 3, 1) := by decide +kernel
theorem dX3_rename_69 : decode cX3_rename 69 = .ok (.invokevirtual 68, 3) := by decide +kernel
theorem dX3_rename_72 : decode cX3_rename 72 = .ok (.iload 4, 2) := by decide +kernel
theorem dX3_rename_74 : decode cX3_rename 74 = .ok (.invokevirtual 98, 3) := by decide +kernel
theorem dX3_rename_77 : decode cX3_rename 77 = .ok (.iload 5, 2) := by decide +kernel
theorem dX3_rename_79 : decode cX3_rename 79 = .ok (.if_icmp .ne 7, 3) := by decide +kernel
theorem dX3_rename_82 : decode cX3_rename 82 = .ok (.iconst 1, 1) := by decide +kernel
theorem dX3_rename_83 : decode cX3_rename 83 = .ok (.goto 4, 3) := by decide +kernel
theorem dX3_rename_86 : decode cX3_rename 86 = .ok (.iconst 0, 1) := by decide +kernel
theorem dX3_rename_87 : decode cX3_rename 87 = .ok (.istore 6, 2) := by decide +kernel
theorem dX3_rename_89 : decode cX3_rename 89 = .ok (.iload 6, 2) := by decide +kernel
theorem dX3_rename_91 : decode cX3_rename 91 = .ok (.ifCond .eq 7, 3) := by decide +kernel
theorem dX3_rename_94 : decode cX3_rename 94 = .ok (.iconst 0, 1) := by decide +kernel
theorem dX3_rename_95 : decode cX3_rename 95 = .ok (.goto 13, 3) := by decide +kernel
theorem dX3_rename_98 : decode cX3_rename 98 = .ok (.aload_n 0, 1) := by decide +kernel
theorem dX3_rename_99 : decode cX3_rename 99 = .ok (.iload_n 1, 1) := by decide +kernel
theorem dX3_rename_100 : decode cX3_rename 100 = .ok (.iload 5, 2) := by decide +kernel
theorem dX3_rename_102 : decode cX3_rename 102 = .ok (.iload_n 3, 1) := by decide +kernel
theorem dX3_rename_103 : decode cX3_rename 103 = .ok (.iload 4, 2) := by decide +kernel
theorem dX3_rename_105 : decode cX3_rename 105 = .ok (.invokevirtual 114, 3) := by decide +kernel
theorem dX3_rename_108 : decode cX3_rename 108 = .ok (.istore 7, 2) := by decide +kernel
theorem dX3_rename_110 : decode cX3_rename 110 = .ok (.iload 7, 2) := by decide +kernel
theorem dX3_rename_112 : decode cX3_rename 112 = .ok (.ifCond .eq 6, 3) := by decide +kernel
theorem dX3_rename_115 : decode cX3_rename 115 = .ok (.iload 7, 2) := by decide +kernel
theorem dX3_rename_117 : decode cX3_rename 117 = .ok (.ireturn, 1) := by decide +kernel
theorem dX3_rename_118 : decode cX3_rename 118 = .ok (.aload_n 0, 1) := by decide +kernel
theorem dX3_rename_119 : decode cX3_rename 119 = .ok (.invokevirtual 62, 3) := by decide +kernel
theorem dX3_rename_122 : decode cX3_rename 122 = .ok (.iload 6, 2) := by decide +kernel
theorem dX3_rename_124 : decode cX3_rename 124 = .ok (.ifCond .ne 32, 3) := by decide +kernel
theorem dX3_rename_127 : decode cX3_rename 127 = .ok (.aload_n 0, 1) := by decide +kernel
theorem dX3_rename_128 : decode cX3_rename 128 = .ok (.getfield 16, 3) := by decide +kernel
theorem dX3_rename_131 : decode cX3_rename 131 = .ok (.iload_n 1, 1) := by decide +kernel
theorem dX3_rename_132 : decode cX3_rename 132 = .ok (.iload_n 2, 1) := by decide +kernel
theorem dX3_rename_133 : decode cX3_rename 133 = .ok (.invokevirtual 118, 3) := by decide +kernel
theorem dX3_rename_136 : decode cX3_rename 136 = .ok (.pop, 1) := by decide +kernel
theorem dX3_rename_137 : decode cX3_rename 137 = .ok (.aload_n 0, 1) := by decide +kernel
theorem dX3_rename_138 : decode cX3_rename 138 = .ok (.iload_n 3, 1) := by decide +kernel
theorem dX3_rename_139 : decode cX3_rename 139 = .ok (.iload 4, 2) := by decide +kernel
theorem dX3_rename_141 : decode cX3_rename 141 = .ok (.invokevirtual 107, 3) := by decide +kernel
theorem dX3_rename_144 : decode cX3_rename 144 = .ok (.aload_n 0, 1) := by decide +kernel
theorem dX3_rename_145 : decode cX3_rename 145 = .ok (.getfield 16, 3) := by decide +kernel
theorem dX3_rename_148 : decode cX3_rename 148 = .ok (.iload_n 3, 1) := by decide +kernel
theorem dX3_rename_149 : decode cX3_rename 149 = .ok (.iload 4, 2) := by decide +kernel
theorem dX3_rename_151 : decode cX3_rename 151 = .ok (.iload 5, 2) := by decide +kernel
theorem dX3_rename_153 : decode cX3_rename 153 = .ok (.invokevirtual 104, 3) := by decide +kernel
theorem dX3_rename_156 : decode cX3_rename 156 = .ok (.aload_n 0, 1) := by decide +kernel
theorem dX3_rename_157 : decode cX3_rename 157 = .ok (.iload 5, 2) := by decide +kernel
theorem dX3_rename_159 : decode cX3_rename 159 = .ok (.invokevirtual 77, 3) := by decide +kernel
theorem dX3_rename_162 : decode cX3_rename 162 = .ok (.ireturn, 1) := by decide +kernel
theorem dX3_exchange_0 : decode cX3_exchange 0 = .ok (.aload_n 0, 1) := by decide +kernel
theorem dX3_exchange_1 : decode cX3_exchange 1 = .ok (.iload_n 1, 1) := by decide +kernel
theorem dX3_exchange_2 : decode cX3_exchange 2 = .ok (.iload_n 2, 1) := by decide +kernel
theorem dX3_exchange_3 : decode cX3_exchange 3 = .ok (.iload_n 3, 1) := by decide +kernel
theorem dX3_exchange_4 : decode cX3_exchange 4 = .ok (.iload 4, 2) := by decide +kernel
theorem dX3_exchange_6 : decode cX3_exchange 6 = .ok (.invokevirtual 110, 3) := by decide +kernel
theorem dX3_exchange_9 : decode cX3_exchange 9 = .ok (.aload_n 0, 1) := by decide +kernel
theorem dX3_exchange_10 : decode cX3_exchange 10 = .ok (.getfield 10, 3) := by decide +kernel
theorem dX3_exchange_13 : decode cX3_exchange 13 = .ok (.iload_n 1, 1) := by decide +kernel
theorem dX3_exchange_14 : decode cX3_exchange 14 = .ok (.invokevirtual 68, 3) := by decide +kernel
theorem dX3_exchange_17 : decode cX3_exchange 17 = .ok (.getfield 88, 3) := by decide +kernel
theorem dX3_exchange_20 : decode cX3_exchange 20 = .ok (.iconst 2, 1) := by decide +kernel
theorem dX3_exchange_21 : decode cX3_exchange 21 = .ok (.if_icmp .ne 18, 3) := by decide +kernel
theorem dX3_exchange_24 : decode cX3_exchange 24 = .ok (.aload_n 0, 1) := by decide +kernel
theorem dX3_exchange_25 : decode cX3_exchange 25 = .ok (.getfield 10, 3) := by decide +kernel
theorem dX3_exchange_28 : decode cX3_exchange 28 = .ok (.iload_n 3, 1) := by decide +kernel
theorem dX3_exchange_29 : decode cX3_exchange 29 = .ok (.invokevirtual 68, 3) := by decide +kernel
theorem dX3_exchange_32 : decode cX3_exchange 32 = .ok (.getfield 88, 3) := by decide +kernel
theorem dX3_exchange_35 : decode cX3_exchange 35 = .ok (.iconst 2, 1) := by decide +kernel
theorem dX3_exchange_36 : decode cX3_exchange 36 = .ok (.if_icmp .eq 6, 3) := by decide +kernel
theorem dX3_exchange_39 : decode cX3_exchange 39 = .ok (.bipush (-3), 2) := by decide +kernel
theorem dX3_exchange_41 : decode cX3_exchange 41 = .ok (.ireturn, 1) := by decide +kernel
theorem dX3_exchange_42 : decode cX3_exchange 42 = .ok (.aload_n 0, 1) := by decide +kernel
theorem dX3_exchange_43 : decode cX3_exchange 43 = .ok (.getfield 10, 3) := by decide +kernel
theorem dX3_exchange_46 : decode cX3_exchange 46 = .ok (.iload_n 1, 1) := by decide +kernel
theorem dX3_exchange_47 : decode cX3_exchange 47 = .ok (.invokevirtual 68, 3) := by decide +kernel
theorem dX3_exchange_50 : decode cX3_exchange 50 = .ok (.iload_n 2, 1) := by decide +kernel
theorem dX3_exchange_51 : decode cX3_exchange 51 = .ok (.invokevirtual 98, 3) := by decide +kernel
theorem dX3_exchange_54 : decode cX3_exchange 54 = .ok (.istore 5, 2) := by decide +kernel
theorem dX3_exchange_56 : decode cX3_exchange 56 = .ok (.aload_n 0, 1) := by decide +kernel
theorem dX3_exchange_57 : decode cX3_exchange 57 = .ok (.getfield 10, 3) := by decide +kernel
theorem dX3_exchange_60 : decode cX3_exchange 60 = .ok (.iload_n 3, 1) := by decide +kernel
theorem dX3_exchange_61 : decode cX3_exchange 61 = .ok (.invokevirtual 68, 3) := by decide +kernel
theorem dX3_exchange_64 : decode cX3_exchange 64 = .ok (.iload 4, 2) := by decide +kernel
theorem dX3_exchange_66 : decode cX3_exchange 66 = .ok (.invokevirtual 98, 3) := by decide +kernel
theorem dX3_exchange_69 : decode cX3_exchange 69 = .ok (.istore 6, 2) := by decide +kernel
theorem dX3_exchange_71 : decode cX3_exchange 71 = .ok (.iload 5, 2) := by decide +kernel
theorem dX3_exchange_73 : decode cX3_exchange 73 = .ok (.iconst (-1), 1) := by decide +kernel
theorem dX3_exchange_74 : decode cX3_exchange 74 = .ok (.if_icmp .eq 9, 3) := by decide +kernel
theorem dX3_exchange_77 : decode cX3_exchange 77 = .ok (.iload 6, 2) := by decide +kernel
theorem dX3_exchange_79 : decode cX3_exchange 79 = .ok (.iconst (-1), 1) := by decide +kernel
theorem dX3_exchange_80 : decode cX3_exchange 80 = .ok (.if_icmp .ne 5, 3) := by decide +kernel
theorem dX3_exchange_83 : decode cX3_exchange 83 = .ok (.iconst (-1), 1) := by decide +kernel
theorem dX3_exchange_84 : decode cX3_exchange 84 = .ok (.ireturn, 1) := by decide +kernel
theorem dX3_exchange_85 : decode cX3_exchange 85 = .ok (.aload_n 0, 1) := by decide +kernel
theorem dX3_exchange_86 : decode cX3_exchange 86 = .ok (.getfield 10, 3) := by decide +kernel
theorem dX3_exchange_89 : decode cX3_exchange 89 = .ok (.iload_n 3, 1) := by decide +kernel
theorem dX3_exchange_90 : decode cX3_exchange 90 = .ok (.iload 5, 2) := by decide +kernel
theorem dX3_exchange_92 : decode cX3_exchange 92 = .ok (.invokevirtual 121, 3) := by decide +kernel
theorem dX3_exchange_95 : decode cX3_exchange 95 = .ok (.ifCond .ne 16, 3) := by decide +kernel
theorem dX3_exchange_98 : decode cX3_exchange 98 = .ok (.aload_n 0, 1) := by decide +kernel
theorem dX3_exchange_99 : decode cX3_exchange 99 = .ok (.getfield 10, 3) := by decide +kernel
theorem dX3_exchange_102 : decode cX3_exchange 102 = .ok (.iload_n 1, 1) := by decide +kernel
theorem dX3_exchange_103 : decode cX3_exchange 103 = .ok (.iload 6, 2) := by decide +kernel
theorem dX3_exchange_105 : decode cX3_exchange 105 = .ok (.invokevirtual 121, 3) := by decide +kernel
theorem dX3_exchange_108 : decode cX3_exchange 108 = .ok (.ifCond .eq 6, 3) := by decide +kernel
theorem dX3_exchange_111 : decode cX3_exchange 111 = .ok (.bipush (-6), 2) := by decide +kernel
theorem dX3_exchange_113 : decode cX3_exchange 113 = .ok (.ireturn, 1) := by decide +kernel
theorem dX3_exchange_114 : decode cX3_exchange 114 = .ok (.aload_n 0, 1) := by decide +kernel
theorem dX3_exchange_115 : decode cX3_exchange 115 = .ok (.invokevirtual 62, 3) := by decide +kernel
theorem dX3_exchange_118 : decode cX3_exchange 118 = .ok (.aload_n 0, 1) := by decide +kernel
theorem dX3_exchange_119 : decode cX3_exchange 119 = .ok (.getfield 16, 3) := by decide +kernel
theorem dX3_exchange_122 : decode cX3_exchange 122 = .ok (.iload_n 1, 1) := by decide +kernel
theorem dX3_exchange_123 : decode cX3_exchange 123 = .ok (.iload_n 2, 1) := by decide +kernel
theorem dX3_exchange_124 : decode cX3_exchange 124 = .ok (.iload 6, 2) := by decide +kernel
theorem dX3_exchange_126 : decode cX3_exchange 126 = .ok (.invokevirtual 125, 3) := by decide +kernel
theorem dX3_exchange_129 : decode cX3_exchange 129 = .ok (.aload_n 0, 1) := by decide +kernel
theorem dX3_exchange_130 : decode cX3_exchange 130 = .ok (.getfield 16, 3) := by decide +kernel
theorem dX3_exchange_133 : decode cX3_exchange 133 = .ok (.iload_n 3, 1) := by decide +kernel
theorem dX3_exchange_134 : decode cX3_exchange 134 = .ok (.iload 4, 2) := by decide +kernel
theorem dX3_exchange_136 : decode cX3_exchange 136 = .ok (.iload 5, 2) := by decide +kernel
theorem dX3_exchange_138 : decode cX3_exchange 138 = .ok (.invokevirtual 125, 3) := by decide +kernel
theorem dX3_exchange_141 : decode cX3_exchange 141 = .ok (.aload_n 0, 1) := by decide +kernel
theorem dX3_exchange_142 : decode cX3_exchange 142 = .ok (.iload 6, 2) := by decide +kernel
theorem dX3_exchange_144 : decode cX3_exchange 144 = .ok (.invokevirtual 77, 3) := by decide +kernel
theorem dX3_exchange_147 : decode cX3_exchange 147 = .ok (.ireturn, 1) := by decide +kernel
theorem dX3_write_0 : decode cX3_write 0 = .ok (.aload_n 0, 1) := by decide +kernel
theorem dX3_write_1 : decode cX3_write 1 = .ok (.invokevirtual 81, 3) := by decide +kernel
theorem dX3_write_4 : decode cX3_write 4 = .ok (.aload_n 0, 1) := by decide +kernel
theorem dX3_write_5 : decode cX3_write 5 = .ok (.iload_n 1, 1) := by decide +kernel
theorem dX3_write_6 : decode cX3_write 6 = .ok (.invokevirtual 128, 3) := by decide +kernel
theorem dX3_write_9 : decode cX3_write 9 = .ok (.astore 4, 2) := by decide +kernel
theorem dX3_write_11 : decode cX3_write 11 = .ok (.aload_n 0, 1) := by decide +kernel
theorem dX3_write_12 : decode cX3_write 12 = .ok (.iload_n 2, 1) := by decide +kernel
theorem dX3_write_13 : decode cX3_write 13 = .ok (.iconst 1, 1) := by decide +kernel
theorem dX3_write_14 : decode cX3_write 14 = .ok (.bipush 64, 2) := by decide +kernel
theorem dX3_write_16 : decode cX3_write 16 = .ok (.invokevirtual 54, 3) := by decide +kernel
theorem dX3_write_19 : decode cX3_write 19 = .ok (.aload_n 0, 1) := by decide +kernel
theorem dX3_write_20 : decode cX3_write 20 = .ok (.iload_n 3, 1) := by decide +kernel
theorem dX3_write_21 : decode cX3_write 21 = .ok (.iconst 0, 1) := by decide +kernel
theorem dX3_write_22 : decode cX3_write 22 = .ok (.sipush 255, 3) := by decide +kernel
theorem dX3_write_25 : decode cX3_write 25 = .ok (.invokevirtual 54, 3) := by decide +kernel
theorem dX3_write_28 : decode cX3_write 28 = .ok (.aload 4, 2) := by decide +kernel
theorem dX3_write_30 : decode cX3_write 30 = .ok (.getfield 132, 3) := by decide +kernel
theorem dX3_write_33 : decode cX3_write 33 = .ok (.iload_n 2, 1) := by decide +kernel
theorem dX3_write_34 : decode cX3_write 34 = .ok (.iadd, 1) := by decide +kernel
theorem dX3_write_35 : decode cX3_write 35 = .ok (.istore 5, 2) := by decide +kernel
theorem dX3_write_37 : decode cX3_write 37 = .ok (.iload 5, 2) := by decide +kernel
theorem dX3_write_39 : decode cX3_write 39 = .ok (.sipush 320, 3) := by decide +kernel
theorem dX3_write_42 : decode cX3_write 42 = .ok (.if_icmp .le 6, 3) := by decide +kernel
theorem dX3_write_45 : decode cX3_write 45 = .ok (.bipush (-5), 2) := by decide +kernel
theorem dX3_write_47 : decode cX3_write 47 = .ok (.ireturn, 1) := by decide +kernel
theorem dX3_write_48 : decode cX3_write 48 = .ok (.aload_n 0, 1) := by decide +kernel
theorem dX3_write_49 : decode cX3_write 49 = .ok (.invokevirtual 62, 3) := by decide +kernel
theorem dX3_write_52 : decode cX3_write 52 = .ok (.aload_n 0, 1) := by decide +kernel
theorem dX3_write_53 : decode cX3_write 53 = .ok (.getfield 16, 3) := by decide +kernel
theorem dX3_write_56 : decode cX3_write 56 = .ok (.aload 4, 2) := by decide +kernel
theorem dX3_write_58 : decode cX3_write 58 = .ok (.getfield 135, 3) := by decide +kernel
theorem dX3_write_61 : decode cX3_write 61 = .ok (.invokevirtual 68, 3) := by decide +kernel
theorem dX3_write_64 : decode cX3_write 64 = .ok (.astore 6, 2) := by decide +kernel
theorem dX3_write_66 : decode cX3_write 66 = .ok (.aload_n 0, 1) := by decide +kernel
theorem dX3_write_67 : decode cX3_write 67 = .ok (.getfield 16, 3) := by decide +kernel
theorem dX3_write_70 : decode cX3_write 70 = .ok (.aload 6, 2) := by decide +kernel
theorem dX3_write_72 : decode cX3_write 72 = .ok (.aload 4, 2) := by decide +kernel
theorem dX3_write_74 : decode cX3_write 74 = .ok (.getfield 132, 3) := by decide +kernel
theorem dX3_write_77 : decode cX3_write 77 = .ok (.iload_n 2, 1) := by decide +kernel
theorem dX3_write_78 : decode cX3_write 78 = .ok (.iload_n 3, 1) := by decide +kernel
theorem dX3_write_79 : decode cX3_write 79 = .ok (.invokevirtual 138, 3) := by decide +kernel
theorem dX3_write_82 : decode cX3_write 82 = .ok (.aload_n 0, 1) := by decide +kernel
theorem dX3_write_83 : decode cX3_write 83 = .ok (.aload 6, 2) := by decide +kernel
theorem dX3_write_85 : decode cX3_write 85 = .ok (.getfield 142, 3) := by decide +kernel
theorem dX3_write_88 : decode cX3_write 88 = .ok (.invokevirtual 77, 3) := by decide +kernel
theorem dX3_write_91 : decode cX3_write 91 = .ok (.istore 7, 2) := by decide +kernel
theorem dX3_write_93 : decode cX3_write 93 = .ok (.iload 7, 2) := by decide +kernel
theorem dX3_write_95 : decode cX3_write 95 = .ok (.ifCond .lt 10, 3) := by decide +kernel
theorem dX3_write_98 : decode cX3_write 98 = .ok (.aload 4, 2) := by decide +kernel
theorem dX3_write_100 : decode cX3_write 100 = .ok (.iload 5, 2) := by decide +kernel
theorem dX3_write_102 : decode cX3_write 102 = .ok (.putfield 132, 3) := by decide +kernel
theorem dX3_write_105 : decode cX3_write 105 = .ok (.iload 7, 2) := by decide +kernel
theorem dX3_write_107 : decode cX3_write 107 = .ok (.ireturn, 1) := by decide +kernel
theorem dX3_truncate_0 : decode cX3_truncate 0 = .ok (.aload_n 0, 1) := by decide +kernel
theorem dX3_truncate_1 : decode cX3_truncate 1 = .ok (.invokevirtual 81, 3) := by decide +kernel
theorem dX3_truncate_4 : decode cX3_truncate 4 = .ok (.aload_n 0, 1) := by decide +kernel
theorem dX3_truncate_5 : decode cX3_truncate 5 = .ok (.iload_n 1, 1) := by decide +kernel
theorem dX3_truncate_6 : decode cX3_truncate 6 = .ok (.invokevirtual 84, 3) := by decide +kernel
theorem dX3_truncate_9 : decode cX3_truncate 9 = .ok (.aload_n 0, 1) := by decide +kernel
theorem dX3_truncate_10 : decode cX3_truncate 10 = .ok (.iload_n 2, 1) := by decide +kernel
theorem dX3_truncate_11 : decode cX3_truncate 11 = .ok (.iconst 0, 1) := by decide +kernel
theorem dX3_truncate_12 : decode cX3_truncate 12 = .ok (.sipush 320, 3) := by decide +kernel
theorem dX3_truncate_15 : decode cX3_truncate 15 = .ok (.invokevirtual 54, 3) := by decide +kernel
theorem dX3_truncate_18 : decode cX3_truncate 18 = .ok (.aload_n 0, 1) := by decide +kernel
theorem dX3_truncate_19 : decode cX3_truncate 19 = .ok (.getfield 10, 3) := by decide +kernel
theorem dX3_truncate_22 : decode cX3_truncate 22 = .ok (.iload_n 1, 1) := by decide +kernel
theorem dX3_truncate_23 : decode cX3_truncate 23 = .ok (.invokevirtual 68, 3) := by decide +kernel
theorem dX3_truncate_26 : decode cX3_truncate 26 = .ok (.getfield 88, 3) := by decide +kernel
theorem dX3_truncate_29 : decode cX3_truncate 29 = .ok (.iconst 1, 1) := by decide +kernel
theorem dX3_truncate_30 : decode cX3_truncate 30 = .ok (.if_icmp .eq 6, 3) := by decide +kernel
theorem dX3_truncate_33 : decode cX3_truncate 33 = .ok (.bipush (-3), 2) := by decide +kernel
theorem dX3_truncate_35 : decode cX3_truncate 35 = .ok (.ireturn, 1) := by decide +kernel
theorem dX3_truncate_36 : decode cX3_truncate 36 = .ok (.aload_n 0, 1) := by decide +kernel
theorem dX3_truncate_37 : decode cX3_truncate 37 = .ok (.invokevirtual 62, 3) := by decide +kernel
theorem dX3_truncate_40 : decode cX3_truncate 40 = .ok (.aload_n 0, 1) := by decide +kernel
theorem dX3_truncate_41 : decode cX3_truncate 41 = .ok (.getfield 16, 3) := by decide +kernel
theorem dX3_truncate_44 : decode cX3_truncate 44 = .ok (.aload_n 0, 1) := by decide +kernel
theorem dX3_truncate_45 : decode cX3_truncate 45 = .ok (.getfield 16, 3) := by decide +kernel
theorem dX3_truncate_48 : decode cX3_truncate 48 = .ok (.iload_n 1, 1) := by decide +kernel
theorem dX3_truncate_49 : decode cX3_truncate 49 = .ok (.invokevirtual 68, 3) := by decide +kernel
theorem dX3_truncate_52 : decode cX3_truncate 52 = .ok (.iload_n 2, 1) := by decide +kernel
theorem dX3_truncate_53 : decode cX3_truncate 53 = .ok (.invokevirtual 145, 3) := by decide +kernel
theorem dX3_truncate_56 : decode cX3_truncate 56 = .ok (.aload_n 0, 1) := by decide +kernel
theorem dX3_truncate_57 : decode cX3_truncate 57 = .ok (.aload_n 0, 1) := by decide +kernel
theorem dX3_truncate_58 : decode cX3_truncate 58 = .ok (.getfield 10, 3) := by decide +kernel
theorem dX3_truncate_61 : decode cX3_truncate 61 = .ok (.iload_n 1, 1) := by decide +kernel
theorem dX3_truncate_62 : decode cX3_truncate 62 = .ok (.invokevirtual 68, 3) := by decide +kernel
theorem dX3_truncate_65 : decode cX3_truncate 65 = .ok (.getfield 142, 3) := by decide +kernel
theorem dX3_truncate_68 : decode cX3_truncate 68 = .ok (.invokevirtual 77, 3) := by decide +kernel
theorem dX3_truncate_71 : decode cX3_truncate 71 = .ok (.ireturn, 1) := by decide +kernel
theorem dX3_punch_0 : decode cX3_punch 0 = .ok (.aload_n 0, 1) := by decide +kernel
theorem dX3_punch_1 : decode cX3_punch 1 = .ok (.invokevirtual 81, 3) := by decide +kernel
theorem dX3_punch_4 : decode cX3_punch 4 = .ok (.aload_n 0, 1) := by decide +kernel
theorem dX3_punch_5 : decode cX3_punch 5 = .ok (.iload_n 1, 1) := by decide +kernel
theorem dX3_punch_6 : decode cX3_punch 6 = .ok (.invokevirtual 84, 3) := by decide +kernel
theorem dX3_punch_9 : decode cX3_punch 9 = .ok (.aload_n 0, 1) := by decide +kernel
theorem dX3_punch_10 : decode cX3_punch 10 = .ok (.iload_n 2, 1) := by decide +kernel
theorem dX3_punch_11 : decode cX3_punch 11 = .ok (.iconst 0, 1) := by decide +kernel
theorem dX3_punch_12 : decode cX3_punch 12 = .ok (.bipush 19, 2) := by decide +kernel
theorem dX3_punch_14 : decode cX3_punch 14 = .ok (.invokevirtual 54, 3) := by decide +kernel
theorem dX3_punch_17 : decode cX3_punch 17 = .ok (.aload_n 0, 1) := by decide +kernel
theorem dX3_punch_18 : decode cX3_punch 18 = .ok (.getfield 10, 3) := by decide +kernel
theorem dX3_punch_21 : decode cX3_punch 21 = .ok (.iload_n 1, 1) := by decide +kernel
theorem dX3_punch_22 : decode cX3_punch 22 = .ok (.invokevirtual 68, 3) := by decide +kernel
theorem dX3_punch_25 : decode cX3_punch 25 = .ok (.getfield 88, 3) := by decide +kernel
theorem dX3_punch_28 : decode cX3_punch 28 = .ok (.iconst 1, 1) := by decide +kernel
theorem dX3_punch_29 : decode cX3_punch 29 = .ok (.if_icmp .eq 6, 3) := by decide +kernel
theorem dX3_punch_32 : decode cX3_punch 32 = .ok (.bipush (-3), 2) := by decide +kernel
theorem dX3_punch_34 : decode cX3_punch 34 = .ok (.ireturn, 1) := by decide +kernel
theorem dX3_punch_35 : decode cX3_punch 35 = .ok (.aload_n 0, 1) := by decide +kernel
theorem dX3_punch_36 : decode cX3_punch 36 = .ok (.invokevirtual 62, 3) := by decide +kernel
theorem dX3_punch_39 : decode cX3_punch 39 = .ok (.aload_n 0, 1) := by decide +kernel
theorem dX3_punch_40 : decode cX3_punch 40 = .ok (.getfield 16, 3) := by decide +kernel
theorem dX3_punch_43 : decode cX3_punch 43 = .ok (.aload_n 0, 1) := by decide +kernel
theorem dX3_punch_44 : decode cX3_punch 44 = .ok (.getfield 16, 3) := by decide +kernel
theorem dX3_punch_47 : decode cX3_punch 47 = .ok (.iload_n 1, 1) := by decide +kernel
theorem dX3_punch_48 : decode cX3_punch 48 = .ok (.invokevirtual 68, 3) := by decide +kernel
theorem dX3_punch_51 : decode cX3_punch 51 = .ok (.iload_n 2, 1) := by decide +kernel
theorem dX3_punch_52 : decode cX3_punch 52 = .ok (.iconst 0, 1) := by decide +kernel
theorem dX3_punch_53 : decode cX3_punch 53 = .ok (.invokevirtual 149, 3) := by decide +kernel
theorem dX3_punch_56 : decode cX3_punch 56 = .ok (.aload_n 0, 1) := by decide +kernel
theorem dX3_punch_57 : decode cX3_punch 57 = .ok (.aload_n 0, 1) := by decide +kernel
theorem dX3_punch_58 : decode cX3_punch 58 = .ok (.getfield 10, 3) := by decide +kernel
theorem dX3_punch_61 : decode cX3_punch 61 = .ok (.iload_n 1, 1) := by decide +kernel
theorem dX3_punch_62 : decode cX3_punch 62 = .ok (.invokevirtual 68, 3) := by decide +kernel
theorem dX3_punch_65 : decode cX3_punch 65 = .ok (.iload_n 2, 1) := by decide +kernel
theorem dX3_punch_66 : decode cX3_punch 66 = .ok (.invokevirtual 153, 3) := by decide +kernel
theorem dX3_punch_69 : decode cX3_punch 69 = .ok (.ifCond .ne 7, 3) := by decide +kernel
theorem dX3_punch_72 : decode cX3_punch 72 = .ok (.iconst 0, 1) := by decide +kernel
theorem dX3_punch_73 : decode cX3_punch 73 = .ok (.goto 4, 3) := by decide +kernel
theorem dX3_punch_76 : decode cX3_punch 76 = .ok (.iconst 1, 1) := by decide +kernel
theorem dX3_punch_77 : decode cX3_punch 77 = .ok (.invokevirtual 77, 3) := by decide +kernel
theorem dX3_punch_80 : decode cX3_punch 80 = .ok (.ireturn, 1) := by decide +kernel
theorem dX3_share_0 : decode cX3_share 0 = .ok (.aload_n 0, 1) := by decide +kernel
theorem dX3_share_1 : decode cX3_share 1 = .ok (.invokevirtual 81, 3) := by decide +kernel
theorem dX3_share_4 : decode cX3_share 4 = .ok (.aload_n 0, 1) := by decide +kernel
theorem dX3_share_5 : decode cX3_share 5 = .ok (.iload_n 1, 1) := by decide +kernel
theorem dX3_share_6 : decode cX3_share 6 = .ok (.invokevirtual 84, 3) := by decide +kernel
theorem dX3_share_9 : decode cX3_share 9 = .ok (.aload_n 0, 1) := by decide +kernel
theorem dX3_share_10 : decode cX3_share 10 = .ok (.iload_n 3, 1) := by decide +kernel
theorem dX3_share_11 : decode cX3_share 11 = .ok (.invokevirtual 84, 3) := by decide +kernel
theorem dX3_share_14 : decode cX3_share 14 = .ok (.aload_n 0, 1) := by decide +kernel
theorem dX3_share_15 : decode cX3_share 15 = .ok (.iload_n 2, 1) := by decide +kernel
theorem dX3_share_16 : decode cX3_share 16 = .ok (.iconst 0, 1) := by decide +kernel
theorem dX3_share_17 : decode cX3_share 17 = .ok (.bipush 19, 2) := by decide +kernel
theorem dX3_share_19 : decode cX3_share 19 = .ok (.invokevirtual 54, 3) := by decide +kernel
theorem dX3_share_22 : decode cX3_share 22 = .ok (.aload_n 0, 1) := by decide +kernel
theorem dX3_share_23 : decode cX3_share 23 = .ok (.iload 4, 2) := by decide +kernel
theorem dX3_share_25 : decode cX3_share 25 = .ok (.iconst 0, 1) := by decide +kernel
theorem dX3_share_26 : decode cX3_share 26 = .ok (.bipush 19, 2) := by decide +kernel
theorem dX3_share_28 : decode cX3_share 28 = .ok (.invokevirtual 54, 3) := by decide +kernel
theorem dX3_share_31 : decode cX3_share 31 = .ok (.aload_n 0, 1) := by decide +kernel
theorem dX3_share_32 : decode cX3_share 32 = .ok (.getfield 10, 3) := by decide +kernel
theorem dX3_share_35 : decode cX3_share 35 = .ok (.iload_n 1, 1) := by decide +kernel
theorem dX3_share_36 : decode cX3_share 36 = .ok (.invokevirtual 68, 3) := by decide +kernel
theorem dX3_share_39 : decode cX3_share 39 = .ok (.astore 5, 2) := by decide +kernel
theorem dX3_share_41 : decode cX3_share 41 = .ok (.aload 5, 2) := by decide +kernel
theorem dX3_share_43 : decode cX3_share 43 = .ok (.getfield 88, 3) := by decide +kernel
theorem dX3_share_46 : decode cX3_share 46 = .ok (.iconst 1, 1) := by decide +kernel
theorem dX3_share_47 : decode cX3_share 47 = .ok (.if_icmp .ne 18, 3) := by decide +kernel
theorem dX3_share_50 : decode cX3_share 50 = .ok (.aload_n 0, 1) := by decide +kernel
theorem dX3_share_51 : decode cX3_share 51 = .ok (.getfield 10, 3) := by decide +kernel
theorem dX3_share_54 : decode cX3_share 54 = .ok (.iload_n 3, 1) := by decide +kernel
theorem dX3_share_55 : decode cX3_share 55 = .ok (.invokevirtual 68, 3) := by decide +kernel
theorem dX3_share_58 : decode cX3_share 58 = .ok (.getfield 88, 3) := by decide +kernel
theorem dX3_share_61 : decode cX3_share 61 = .ok (.iconst 1, 1) := by decide +kernel
theorem dX3_share_62 : decode cX3_share 62 = .ok (.if_icmp .eq 6, 3) := by decide +kernel
theorem dX3_share_65 : decode cX3_share 65 = .ok (.bipush (-3), 2) := by decide +kernel
theorem dX3_share_67 : decode cX3_share 67 = .ok (.ireturn, 1) := by decide +kernel
theorem dX3_share_68 : decode cX3_share 68 = .ok (.aload_n 0, 1) := by decide +kernel
theorem dX3_share_69 : decode cX3_share 69 = .ok (.getfield 10, 3) := by decide +kernel
theorem dX3_share_72 : decode cX3_share 72 = .ok (.iload_n 3, 1) := by decide +kernel
theorem dX3_share_73 : decode cX3_share 73 = .ok (.invokevirtual 68, 3) := by decide +kernel
theorem dX3_share_76 : decode cX3_share 76 = .ok (.iload 4, 2) := by decide +kernel
theorem dX3_share_78 : decode cX3_share 78 = .ok (.invokevirtual 153, 3) := by decide +kernel
theorem dX3_share_81 : decode cX3_share 81 = .ok (.istore 6, 2) := by decide +kernel
theorem dX3_share_83 : decode cX3_share 83 = .ok (.iload_n 1, 1) := by decide +kernel
theorem dX3_share_84 : decode cX3_share 84 = .ok (.iload_n 3, 1) := by decide +kernel
theorem dX3_share_85 : decode cX3_share 85 = .ok (.if_icmp .ne 9, 3) := by decide +kernel
theorem dX3_share_88 : decode cX3_share 88 = .ok (.iload_n 2, 1) := by decide +kernel
theorem dX3_share_89 : decode cX3_share 89 = .ok (.iload 4, 2) := by decide +kernel
theorem dX3_share_91 : decode cX3_share 91 = .ok (.if_icmp .ne 14, 3) := by decide +kernel
theorem dX3_share_94 : decode cX3_share 94 = .ok (.aload 5, 2) := by decide +kernel
theorem dX3_share_96 : decode cX3_share 96 = .ok (.iload 6, 2) := by decide +kernel
theorem dX3_share_98 : decode cX3_share 98 = .ok (.iload_n 2, 1) := by decide +kernel
theorem dX3_share_99 : decode cX3_share 99 = .ok (.invokevirtual 156, 3) := by decide +kernel
theorem dX3_share_102 : decode cX3_share 102 = .ok (.ifCond .eq 6, 3) := by decide +kernel
theorem dX3_share_105 : decode cX3_share 105 = .ok (.bipush (-6), 2) := by decide +kernel
theorem dX3_share_107 : decode cX3_share 107 = .ok (.ireturn, 1) := by decide +kernel
theorem dX3_share_108 : decode cX3_share 108 = .ok (.iload_n 2, 1) := by decide +kernel
theorem dX3_share_109 : decode cX3_share 109 = .ok (.iconst 1, 1) := by decide +kernel
theorem dX3_share_110 : decode cX3_share 110 = .ok (.iadd, 1) := by decide +kernel
theorem dX3_share_111 : decode cX3_share 111 = .ok (.bipush 16, 2) := by decide +kernel
theorem dX3_share_113 : decode cX3_share 113 = .ok (.imul, 1) := by decide +kernel
theorem dX3_share_114 : decode cX3_share 114 = .ok (.aload 5, 2) := by decide +kernel
theorem dX3_share_116 : decode cX3_share 116 = .ok (.getfield 142, 3) := by decide +kernel
theorem dX3_share_119 : decode cX3_share 119 = .ok (.if_icmp .le 6, 3) := by decide +kernel
theorem dX3_share_122 : decode cX3_share 122 = .ok (.bipush (-5), 2) := by decide +kernel
theorem dX3_share_124 : decode cX3_share 124 = .ok (.ireturn, 1) := by decide +kernel
theorem dX3_share_125 : decode cX3_share 125 = .ok (.aload_n 0, 1) := by decide +kernel
theorem dX3_share_126 : decode cX3_share 126 = .ok (.invokevirtual 62, 3) := by decide +kernel
theorem dX3_share_129 : decode cX3_share 129 = .ok (.aload_n 0, 1) := by decide +kernel
theorem dX3_share_130 : decode cX3_share 130 = .ok (.getfield 16, 3) := by decide +kernel
theorem dX3_share_133 : decode cX3_share 133 = .ok (.aload_n 0, 1) := by decide +kernel
theorem dX3_share_134 : decode cX3_share 134 = .ok (.getfield 16, 3) := by decide +kernel
theorem dX3_share_137 : decode cX3_share 137 = .ok (.iload_n 1, 1) := by decide +kernel
theorem dX3_share_138 : decode cX3_share 138 = .ok (.invokevirtual 68, 3) := by decide +kernel
theorem dX3_share_141 : decode cX3_share 141 = .ok (.iload_n 2, 1) := by decide +kernel
theorem dX3_share_142 : decode cX3_share 142 = .ok (.iload 6, 2) := by decide +kernel
theorem dX3_share_144 : decode cX3_share 144 = .ok (.invokevirtual 149, 3) := by decide +kernel
theorem dX3_share_147 : decode cX3_share 147 = .ok (.aload_n 0, 1) := by decide +kernel
theorem dX3_share_148 : decode cX3_share 148 = .ok (.iload 6, 2) := by decide +kernel
theorem dX3_share_150 : decode cX3_share 150 = .ok (.ifCond .ne 7, 3) := by decide +kernel
theorem dX3_share_153 : decode cX3_share 153 = .ok (.iconst 0, 1) := by decide +kernel
theorem dX3_share_154 : decode cX3_share 154 = .ok (.goto 4, 3) := by decide +kernel
theorem dX3_share_157 : decode cX3_share 157 = .ok (.iconst 1, 1) := by decide +kernel
theorem dX3_share_158 : decode cX3_share 158 = .ok (.invokevirtual 77, 3) := by decide +kernel
theorem dX3_share_161 : decode cX3_share 161 = .ok (.ireturn, 1) := by decide +kernel
theorem dX3_setOwner_0 : decode cX3_setOwner 0 = .ok (.aload_n 0, 1) := by decide +kernel
theorem dX3_setOwner_1 : decode cX3_setOwner 1 = .ok (.invokevirtual 81, 3) := by decide +kernel
theorem dX3_setOwner_4 : decode cX3_setOwner 4 = .ok (.aload_n 0, 1) := by decide +kernel
theorem dX3_setOwner_5 : decode cX3_setOwner 5 = .ok (.iload_n 1, 1) := by decide +kernel
theorem dX3_setOwner_6 : decode cX3_setOwner 6 = .ok (.invokevirtual 84, 3) := by decide +kernel
theorem dX3_setOwner_9 : decode cX3_setOwner 9 = .ok (.aload_n 0, 1) := by decide +kernel
theorem dX3_setOwner_10 : decode cX3_setOwner 10 = .ok (.iload_n 2, 1) := by decide +kernel
theorem dX3_setOwner_11 : decode cX3_setOwner 11 = .ok (.iconst 0, 1) := by decide +kernel
theorem dX3_setOwner_12 : decode cX3_setOwner 12 = .ok (.iconst 3, 1) := by decide +kernel
theorem dX3_setOwner_13 : decode cX3_setOwner 13 = .ok (.invokevirtual 54, 3) := by decide +kernel
theorem dX3_setOwner_16 : decode cX3_setOwner 16 = .ok (.aload_n 0, 1) := by decide +kernel
theorem dX3_setOwner_17 : decode cX3_setOwner 17 = .ok (.invokevirtual 62, 3) := by decide +kernel
theorem dX3_setOwner_20 : decode cX3_setOwner 20 = .ok (.aload_n 0, 1) := by decide +kernel
theorem dX3_setOwner_21 : decode cX3_setOwner 21 = .ok (.getfield 16, 3) := by decide +kernel
theorem dX3_setOwner_24 : decode cX3_setOwner 24 = .ok (.iload_n 1, 1) := by decide +kernel
theorem dX3_setOwner_25 : decode cX3_setOwner 25 = .ok (.invokevirtual 68, 3) := by decide +kernel
theorem dX3_setOwner_28 : decode cX3_setOwner 28 = .ok (.iload_n 2, 1) := by decide +kernel
theorem dX3_setOwner_29 : decode cX3_setOwner 29 = .ok (.putfield 159, 3) := by decide +kernel
theorem dX3_setOwner_32 : decode cX3_setOwner 32 = .ok (.aload_n 0, 1) := by decide +kernel
theorem dX3_setOwner_33 : decode cX3_setOwner 33 = .ok (.aload_n 0, 1) := by decide +kernel
theorem dX3_setOwner_34 : decode cX3_setOwner 34 = .ok (.getfield 10, 3) := by decide +kernel
theorem dX3_setOwner_37 : decode cX3_setOwner 37 = .ok (.iload_n 1, 1) := by decide +kernel
theorem dX3_setOwner_38 : decode cX3_setOwner 38 = .ok (.invokevirtual 68, 3) := by decide +kernel
theorem dX3_setOwner_41 : decode cX3_setOwner 41 = .ok (.getfield 159, 3) := by decide +kernel
theorem dX3_setOwner_44 : decode cX3_setOwner 44 = .ok (.invokevirtual 77, 3) := by decide +kernel
theorem dX3_setOwner_47 : decode cX3_setOwner 47 = .ok (.ireturn, 1) := by decide +kernel
theorem dX3_setQuota_0 : decode cX3_setQuota 0 = .ok (.aload_n 0, 1) := by decide +kernel
theorem dX3_setQuota_1 : decode cX3_setQuota 1 = .ok (.invokevirtual 81, 3) := by decide +kernel
theorem dX3_setQuota_4 : decode cX3_setQuota 4 = .ok (.aload_n 0, 1) := by decide +kernel
theorem dX3_setQuota_5 : decode cX3_setQuota 5 = .ok (.iload_n 1, 1) := by decide +kernel
theorem dX3_setQuota_6 : decode cX3_setQuota 6 = .ok (.iconst 0, 1) := by decide +kernel
theorem dX3_setQuota_7 : decode cX3_setQuota 7 = .ok (.iconst 3, 1) := by decide +kernel
theorem dX3_setQuota_8 : decode cX3_setQuota 8 = .ok (.invokevirtual 54, 3) := by decide +kernel
theorem dX3_setQuota_11 : decode cX3_setQuota 11 = .ok (.aload_n 0, 1) := by decide +kernel
theorem dX3_setQuota_12 : decode cX3_setQuota 12 = .ok (.iload_n 2, 1) := by decide +kernel
theorem dX3_setQuota_13 : decode cX3_setQuota 13 = .ok (.iconst 0, 1) := by decide +kernel
theorem dX3_setQuota_14 : decode cX3_setQuota 14 = .ok (.bipush 120, 2) := by decide +kernel
theorem dX3_setQuota_16 : decode cX3_setQuota 16 = .ok (.invokevirtual 54, 3) := by decide +kernel
theorem dX3_setQuota_19 : decode cX3_setQuota 19 = .ok (.aload_n 0, 1) := by decide +kernel
theorem dX3_setQuota_20 : decode cX3_setQuota 20 = .ok (.invokevirtual 62, 3) := by decide +kernel
theorem dX3_setQuota_23 : decode cX3_setQuota 23 = .ok (.aload_n 0, 1) := by decide +kernel
theorem dX3_setQuota_24 : decode cX3_setQuota 24 = .ok (.getfield 16, 3) := by decide +kernel
theorem dX3_setQuota_27 : decode cX3_setQuota 27 = .ok (.iload_n 1, 1) := by decide +kernel
theorem dX3_setQuota_28 : decode cX3_setQuota 28 = .ok (.iload_n 2, 1) := by decide +kernel
theorem dX3_setQuota_29 : decode cX3_setQuota 29 = .ok (.invokevirtual 162, 3) := by decide +kernel
theorem dX3_setQuota_32 : decode cX3_setQuota 32 = .ok (.aload_n 0, 1) := by decide +kernel
theorem dX3_setQuota_33 : decode cX3_setQuota 33 = .ok (.aload_n 0, 1) := by decide +kernel
theorem dX3_setQuota_34 : decode cX3_setQuota 34 = .ok (.getfield 10, 3) := by decide +kernel
theorem dX3_setQuota_37 : decode cX3_setQuota 37 = .ok (.iload_n 1, 1) := by decide +kernel
theorem dX3_setQuota_38 : decode cX3_setQuota 38 = .ok (.invokevirtual 165, 3) := by decide +kernel
theorem dX3_setQuota_41 : decode cX3_setQuota 41 = .ok (.invokevirtual 77, 3) := by decide +kernel
theorem dX3_setQuota_44 : decode cX3_setQuota 44 = .ok (.ireturn, 1) := by decide +kernel
theorem dX3_open_0 : decode cX3_open 0 = .ok (.aload_n 0, 1) := by decide +kernel
theorem dX3_open_1 : decode cX3_open 1 = .ok (.invokevirtual 81, 3) := by decide +kernel
theorem dX3_open_4 : decode cX3_open 4 = .ok (.aload_n 0, 1) := by decide +kernel
theorem dX3_open_5 : decode cX3_open 5 = .ok (.iload_n 1, 1) := by decide +kernel
theorem dX3_open_6 : decode cX3_open 6 = .ok (.invokevirtual 84, 3) := by decide +kernel
theorem dX3_open_9 : decode cX3_open 9 = .ok (.aload_n 0, 1) := by decide +kernel
theorem dX3_open_10 : decode cX3_open 10 = .ok (.getfield 10, 3) := by decide +kernel
theorem dX3_open_13 : decode cX3_open 13 = .ok (.iload_n 1, 1) := by decide +kernel
theorem dX3_open_14 : decode cX3_open 14 = .ok (.invokevirtual 68, 3) := by decide +kernel
theorem dX3_open_17 : decode cX3_open 17 = .ok (.getfield 88, 3) := by decide +kernel
theorem dX3_open_20 : decode cX3_open 20 = .ok (.iconst 1, 1) := by decide +kernel
theorem dX3_open_21 : decode cX3_open 21 = .ok (.if_icmp .eq 6, 3) := by decide +kernel
theorem dX3_open_24 : decode cX3_open 24 = .ok (.bipush (-3), 2) := by decide +kernel
theorem dX3_open_26 : decode cX3_open 26 = .ok (.ireturn, 1) := by decide +kernel
theorem dX3_open_27 : decode cX3_open 27 = .ok (.iconst 0, 1) := by decide +kernel
theorem dX3_open_28 : decode cX3_open 28 = .ok (.istore_n 2, 1) := by decide +kernel
theorem dX3_open_29 : decode cX3_open 29 = .ok (.iload_n 2, 1) := by decide +kernel
theorem dX3_open_30 : decode cX3_open 30 = .ok (.aload_n 0, 1) := by decide +kernel
theorem dX3_open_31 : decode cX3_open 31 = .ok (.getfield 24, 3) := by decide +kernel
theorem dX3_open_34 : decode cX3_open 34 = .ok (.arraylength, 1) := by decide +kernel
theorem dX3_open_35 : decode cX3_open 35 = .ok (.if_icmp .ge 33, 3) := by decide +kernel
theorem dX3_open_38 : decode cX3_open 38 = .ok (.aload_n 0, 1) := by decide +kernel
theorem dX3_open_39 : decode cX3_open 39 = .ok (.getfield 24, 3) := by decide +kernel
theorem dX3_open_42 : decode cX3_open 42 = .ok (.iload_n 2, 1) := by decide +kernel
theorem dX3_open_43 : decode cX3_open 43 = .ok (.aaload, 1) := by decide +kernel
theorem dX3_open_44 : decode cX3_open 44 = .ok (.getfield 168, 3) := by decide +kernel
theorem dX3_open_47 : decode cX3_open 47 = .ok (.ifCond .ne 15, 3) := by decide +kernel
theorem dX3_open_50 : decode cX3_open 50 = .ok (.aload_n 0, 1) := by decide +kernel
theorem dX3_open_51 : decode cX3_open 51 = .ok (.getfield 24, 3) := by decide +kernel
theorem dX3_open_54 : decode cX3_open 54 = .ok (.iload_n 2, 1) := by decide +kernel
theorem dX3_open_55 : decode cX3_open 55 = .ok (.aaload, 1) := by decide +kernel
theorem dX3_open_56 : decode cX3_open 56 = .ok (.iload_n 1, 1) := by decide +kernel
theorem dX3_open_57 : decode cX3_open 57 = .ok (.invokevirtual 171, 3) := by decide +kernel
theorem dX3_open_60 : decode cX3_open 60 = .ok (.iload_n 2, 1) := by decide +kernel
theorem dX3_open_61 : decode cX3_open 61 = .ok (.ireturn, 1) := by decide +kernel
theorem dX3_open_62 : decode cX3_open 62 = .ok (.iinc 2 1, 3) := by decide +kernel
theorem dX3_open_65 : decode cX3_open 65 = .ok (.goto (-36), 3) := by decide +kernel
theorem dX3_open_68 : decode cX3_open 68 = .ok (.bipush (-5), 2) := by decide +kernel
theorem dX3_open_70 : decode cX3_open 70 = .ok (.ireturn, 1) := by decide +kernel
theorem dX3_close_0 : decode cX3_close 0 = .ok (.aload_n 0, 1) := by decide +kernel
theorem dX3_close_1 : decode cX3_close 1 = .ok (.invokevirtual 81, 3) := by decide +kernel
theorem dX3_close_4 : decode cX3_close 4 = .ok (.aload_n 0, 1) := by decide +kernel
theorem dX3_close_5 : decode cX3_close 5 = .ok (.iload_n 1, 1) := by decide +kernel
theorem dX3_close_6 : decode cX3_close 6 = .ok (.invokevirtual 128, 3) := by decide +kernel
theorem dX3_close_9 : decode cX3_close 9 = .ok (.astore_n 2, 1) := by decide +kernel
theorem dX3_close_10 : decode cX3_close 10 = .ok (.aload_n 2, 1) := by decide +kernel
theorem dX3_close_11 : decode cX3_close 11 = .ok (.getfield 135, 3) := by decide +kernel
theorem dX3_close_14 : decode cX3_close 14 = .ok (.istore_n 3, 1) := by decide +kernel
theorem dX3_close_15 : decode cX3_close 15 = .ok (.aload_n 2, 1) := by decide +kernel
theorem dX3_close_16 : decode cX3_close 16 = .ok (.invokevirtual 174, 3) := by decide +kernel
theorem dX3_close_19 : decode cX3_close 19 = .ok (.aload_n 0, 1) := by decide +kernel
theorem dX3_close_20 : decode cX3_close 20 = .ok (.getfield 10, 3) := by decide +kernel
theorem dX3_close_23 : decode cX3_close 23 = .ok (.iload_n 3, 1) := by decide +kernel
theorem dX3_close_24 : decode cX3_close 24 = .ok (.invokevirtual 68, 3) := by decide +kernel
theorem dX3_close_27 : decode cX3_close 27 = .ok (.invokevirtual 177, 3) := by decide +kernel
theorem dX3_close_30 : decode cX3_close 30 = .ok (.ifCond .eq 11, 3) := by decide +kernel
theorem dX3_close_33 : decode cX3_close 33 = .ok (.aload_n 0, 1) := by decide +kernel
theorem dX3_close_34 : decode cX3_close 34 = .ok (.iload_n 3, 1) := by decide +kernel
theorem dX3_close_35 : decode cX3_close 35 = .ok (.invokevirtual 181, 3) := by decide +kernel
theorem dX3_close_38 : decode cX3_close 38 = .ok (.ifCond .eq 5, 3) := by decide +kernel
theorem dX3_close_41 : decode cX3_close 41 = .ok (.iload_n 3, 1) := by decide +kernel
theorem dX3_close_42 : decode cX3_close 42 = .ok (.ireturn, 1) := by decide +kernel
theorem dX3_close_43 : decode cX3_close 43 = .ok (.aload_n 0, 1) := by decide +kernel
theorem dX3_close_44 : decode cX3_close 44 = .ok (.invokevirtual 62, 3) := by decide +kernel
theorem dX3_close_47 : decode cX3_close 47 = .ok (.aload_n 0, 1) := by decide +kernel
theorem dX3_close_48 : decode cX3_close 48 = .ok (.getfield 16, 3) := by decide +kernel
theorem dX3_close_51 : decode cX3_close 51 = .ok (.iload_n 3, 1) := by decide +kernel
theorem dX3_close_52 : decode cX3_close 52 = .ok (.invokevirtual 185, 3) := by decide +kernel
theorem dX3_close_55 : decode cX3_close 55 = .ok (.aload_n 0, 1) := by decide +kernel
theorem dX3_close_56 : decode cX3_close 56 = .ok (.iload_n 3, 1) := by decide +kernel
theorem dX3_close_57 : decode cX3_close 57 = .ok (.invokevirtual 77, 3) := by decide +kernel
theorem dX3_close_60 : decode cX3_close 60 = .ok (.ireturn, 1) := by decide +kernel
theorem dX3_seek_0 : decode cX3_seek 0 = .ok (.aload_n 0, 1) := by decide +kernel
theorem dX3_seek_1 : decode cX3_seek 1 = .ok (.invokevirtual 81, 3) := by decide +kernel
theorem dX3_seek_4 : decode cX3_seek 4 = .ok (.aload_n 0, 1) := by decide +kernel
theorem dX3_seek_5 : decode cX3_seek 5 = .ok (.iload_n 1, 1) := by decide +kernel
theorem dX3_seek_6 : decode cX3_seek 6 = .ok (.invokevirtual 128, 3) := by decide +kernel
theorem dX3_seek_9 : decode cX3_seek 9 = .ok (.astore_n 3, 1) := by decide +kernel
theorem dX3_seek_10 : decode cX3_seek 10 = .ok (.aload_n 0, 1) := by decide +kernel
theorem dX3_seek_11 : decode cX3_seek 11 = .ok (.iload_n 2, 1) := by decide +kernel
theorem dX3_seek_12 : decode cX3_seek 12 = .ok (.iconst 0, 1) := by decide +kernel
theorem dX3_seek_13 : decode cX3_seek 13 = .ok (.sipush 320, 3) := by decide +kernel
theorem dX3_seek_16 : decode cX3_seek 16 = .ok (.invokevirtual 54, 3) := by decide +kernel
theorem dX3_seek_19 : decode cX3_seek 19 = .ok (.aload_n 3, 1) := by decide +kernel
theorem dX3_seek_20 : decode cX3_seek 20 = .ok (.getfield 132, 3) := by decide +kernel
theorem dX3_seek_23 : decode cX3_seek 23 = .ok (.istore 4, 2) := by decide +kernel
theorem dX3_seek_25 : decode cX3_seek 25 = .ok (.aload_n 3, 1) := by decide +kernel
theorem dX3_seek_26 : decode cX3_seek 26 = .ok (.iload_n 2, 1) := by decide +kernel
theorem dX3_seek_27 : decode cX3_seek 27 = .ok (.putfield 132, 3) := by decide +kernel
theorem dX3_seek_30 : decode cX3_seek 30 = .ok (.iload 4, 2) := by decide +kernel
theorem dX3_seek_32 : decode cX3_seek 32 = .ok (.ireturn, 1) := by decide +kernel
theorem dX3_read_0 : decode cX3_read 0 = .ok (.aload_n 0, 1) := by decide +kernel
theorem dX3_read_1 : decode cX3_read 1 = .ok (.invokevirtual 81, 3) := by decide +kernel
theorem dX3_read_4 : decode cX3_read 4 = .ok (.aload_n 0, 1) := by decide +kernel
theorem dX3_read_5 : decode cX3_read 5 = .ok (.iload_n 1, 1) := by decide +kernel
theorem dX3_read_6 : decode cX3_read 6 = .ok (.invokevirtual 128, 3) := by decide +kernel
theorem dX3_read_9 : decode cX3_read 9 = .ok (.astore_n 3, 1) := by decide +kernel
theorem dX3_read_10 : decode cX3_read 10 = .ok (.aload_n 0, 1) := by decide +kernel
theorem dX3_read_11 : decode cX3_read 11 = .ok (.iload_n 2, 1) := by decide +kernel
theorem dX3_read_12 : decode cX3_read 12 = .ok (.iconst 1, 1) := by decide +kernel
theorem dX3_read_13 : decode cX3_read 13 = .ok (.sipush 320, 3) := by decide +kernel
theorem dX3_read_16 : decode cX3_read 16 = .ok (.invokevirtual 54, 3) := by decide +kernel
theorem dX3_read_19 : decode cX3_read 19 = .ok (.aload_n 0, 1) := by decide +kernel
theorem dX3_read_20 : decode cX3_read 20 = .ok (.getfield 10, 3) := by decide +kernel
theorem dX3_read_23 : decode cX3_read 23 = .ok (.aload_n 3, 1) := by decide +kernel
theorem dX3_read_24 : decode cX3_read 24 = .ok (.getfield 135, 3) := by decide +kernel
theorem dX3_read_27 : decode cX3_read 27 = .ok (.invokevirtual 68, 3) := by decide +kernel
theorem dX3_read_30 : decode cX3_read 30 = .ok (.astore 4, 2) := by decide +kernel
theorem dX3_read_32 : decode cX3_read 32 = .ok (.aload_n 3, 1) := by decide +kernel
theorem dX3_read_33 : decode cX3_read 33 = .ok (.getfield 132, 3) := by decide +kernel
theorem dX3_read_36 : decode cX3_read 36 = .ok (.istore 5, 2) := by decide +kernel
theorem dX3_read_38 : decode cX3_read 38 = .ok (.iload 5, 2) := by decide +kernel
theorem dX3_read_40 : decode cX3_read 40 = .ok (.iload_n 2, 1) := by decide +kernel
theorem dX3_read_41 : decode cX3_read 41 = .ok (.iadd, 1) := by decide +kernel
theorem dX3_read_42 : decode cX3_read 42 = .ok (.aload 4, 2) := by decide +kernel
theorem dX3_read_44 : decode cX3_read 44 = .ok (.getfield 142, 3) := by decide +kernel
theorem dX3_read_47 : decode cX3_read 47 = .ok (.invokestatic 188, 3) := by decide +kernel
theorem dX3_read_50 : decode cX3_read 50 = .ok (.istore 6, 2) := by decide +kernel
theorem dX3_read_52 : decode cX3_read 52 = .ok (.iconst 0, 1) := by decide +kernel
theorem dX3_read_53 : decode cX3_read 53 = .ok (.istore 7, 2) := by decide +kernel
theorem dX3_read_55 : decode cX3_read 55 = .ok (.iload 5, 2) := by decide +kernel
theorem dX3_read_57 : decode cX3_read 57 = .ok (.istore 8, 2) := by decide +kernel
theorem dX3_read_59 : decode cX3_read 59 = .ok (.iload 8, 2) := by decide +kernel
theorem dX3_read_61 : decode cX3_read 61 = .ok (.iload 6, 2) := by decide +kernel
theorem dX3_read_63 : decode cX3_read 63 = .ok (.if_icmp .ge 33, 3) := by decide +kernel
theorem dX3_read_66 : decode cX3_read 66 = .ok (.bipush 31, 2) := by decide +kernel
theorem dX3_read_68 : decode cX3_read 68 = .ok (.iload 7, 2) := by decide +kernel
theorem dX3_read_70 : decode cX3_read 70 = .ok (.imul, 1) := by decide +kernel
theorem dX3_read_71 : decode cX3_read 71 = .ok (.aload_n 0, 1) := by decide +kernel
theorem dX3_read_72 : decode cX3_read 72 = .ok (.getfield 10, 3) := by decide +kernel
theorem dX3_read_75 : decode cX3_read 75 = .ok (.aload 4, 2) := by decide +kernel
theorem dX3_read_77 : decode cX3_read 77 = .ok (.iload 8, 2) := by decide +kernel
theorem dX3_read_79 : decode cX3_read 79 = .ok (.invokevirtual 193, 3) := by decide +kernel
theorem dX3_read_82 : decode cX3_read 82 = .ok (.iadd, 1) := by decide +kernel
theorem dX3_read_83 : decode cX3_read 83 = .ok (.iconst 1, 1) := by decide +kernel
theorem dX3_read_84 : decode cX3_read 84 = .ok (.iadd, 1) := by decide +kernel
theorem dX3_read_85 : decode cX3_read 85 = .ok (.ldc 197, 2) := by decide +kernel
theorem dX3_read_87 : decode cX3_read 87 = .ok (.irem, 1) := by decide +kernel
theorem dX3_read_88 : decode cX3_read 88 = .ok (.istore 7, 2) := by decide +kernel
theorem dX3_read_90 : decode cX3_read 90 = .ok (.iinc 8 1, 3) := by decide +kernel
theorem dX3_read_93 : decode cX3_read 93 = .ok (.goto (-34), 3) := by decide +kernel
theorem dX3_read_96 : decode cX3_read 96 = .ok (.aload_n 3, 1) := by decide +kernel
theorem dX3_read_97 : decode cX3_read 97 = .ok (.iload 5, 2) := by decide +kernel
theorem dX3_read_99 : decode cX3_read 99 = .ok (.iload 6, 2) := by decide +kernel
theorem dX3_read_101 : decode cX3_read 101 = .ok (.invokestatic 198, 3) := by decide +kernel
theorem dX3_read_104 : decode cX3_read 104 = .ok (.putfield 132, 3) := by decide +kernel
theorem dX3_read_107 : decode cX3_read 107 = .ok (.iload 7, 2) := by decide +kernel
theorem dX3_read_109 : decode cX3_read 109 = .ok (.ireturn, 1) := by decide +kernel
theorem dX3_lock_0 : decode cX3_lock 0 = .ok (.aload_n 0, 1) := by decide +kernel
theorem dX3_lock_1 : decode cX3_lock 1 = .ok (.invokevirtual 81, 3) := by decide +kernel
theorem dX3_lock_4 : decode cX3_lock 4 = .ok (.aload_n 0, 1) := by decide +kernel
theorem dX3_lock_5 : decode cX3_lock 5 = .ok (.iload_n 1, 1) := by decide +kernel
theorem dX3_lock_6 : decode cX3_lock 6 = .ok (.invokevirtual 128, 3) := by decide +kernel
theorem dX3_lock_9 : decode cX3_lock 9 = .ok (.astore 5, 2) := by decide +kernel
theorem dX3_lock_11 : decode cX3_lock 11 = .ok (.aload_n 0, 1) := by decide +kernel
theorem dX3_lock_12 : decode cX3_lock 12 = .ok (.iload_n 2, 1) := by decide +kernel
theorem dX3_lock_13 : decode cX3_lock 13 = .ok (.iload_n 3, 1) := by decide +kernel
theorem dX3_lock_14 : decode cX3_lock 14 = .ok (.invokevirtual 201, 3) := by decide +kernel
theorem dX3_lock_17 : decode cX3_lock 17 = .ok (.aload_n 0, 1) := by decide +kernel
theorem dX3_lock_18 : decode cX3_lock 18 = .ok (.iload_n 1, 1) := by decide +kernel
theorem dX3_lock_19 : decode cX3_lock 19 = .ok (.iload_n 2, 1) := by decide +kernel
theorem dX3_lock_20 : decode cX3_lock 20 = .ok (.iload_n 3, 1) := by decide +kernel
theorem dX3_lock_21 : decode cX3_lock 21 = .ok (.iload 4, 2) := by decide +kernel
theorem dX3_lock_23 : decode cX3_lock 23 = .ok (.invokevirtual 204, 3) := by decide +kernel
theorem dX3_lock_26 : decode cX3_lock 26 = .ok (.iconst (-1), 1) := by decide +kernel
theorem dX3_lock_27 : decode cX3_lock 27 = .ok (.if_icmp .eq 5, 3) := by decide +kernel
theorem dX3_lock_30 : decode cX3_lock 30 = .ok (.iconst 0, 1) := by decide +kernel
theorem dX3_lock_31 : decode cX3_lock 31 = .ok (.ireturn, 1) := by decide +kernel
theorem dX3_lock_32 : decode cX3_lock 32 = .ok (.aload 5, 2) := by decide +kernel
theorem dX3_lock_34 : decode cX3_lock 34 = .ok (.iload_n 2, 1) := by decide +kernel
theorem dX3_lock_35 : decode cX3_lock 35 = .ok (.iload_n 3, 1) := by decide +kernel
theorem dX3_lock_36 : decode cX3_lock 36 = .ok (.iload 4, 2) := by decide +kernel
theorem dX3_lock_38 : decode cX3_lock 38 = .ok (.ifCond .eq 7, 3) := by decide +kernel
theorem dX3_lock_41 : decode cX3_lock 41 = .ok (.iconst 2, 1) := by decide +kernel
theorem dX3_lock_42 : decode cX3_lock 42 = .ok (.goto 4, 3) := by decide +kernel
theorem dX3_lock_45 : decode cX3_lock 45 = .ok (.iconst 1, 1) := by decide +kernel
theorem dX3_lock_46 : decode cX3_lock 46 = .ok (.invokevirtual 208, 3) := by decide +kernel
theorem dX3_lock_49 : decode cX3_lock 49 = .ok (.pop, 1) := by decide +kernel
theorem dX3_lock_50 : decode cX3_lock 50 = .ok (.iconst 1, 1) := by decide +kernel
theorem dX3_lock_51 : decode cX3_lock 51 = .ok (.ireturn, 1) := by decide +kernel
theorem dX3_unlock_0 : decode cX3_unlock 0 = .ok (.aload_n 0, 1) := by decide +kernel
theorem dX3_unlock_1 : decode cX3_unlock 1 = .ok (.invokevirtual 81, 3) := by decide +kernel
theorem dX3_unlock_4 : decode cX3_unlock 4 = .ok (.aload_n 0, 1) := by decide +kernel
theorem dX3_unlock_5 : decode cX3_unlock 5 = .ok (.iload_n 1, 1) := by decide +kernel
theorem dX3_unlock_6 : decode cX3_unlock 6 = .ok (.invokevirtual 128, 3) := by decide +kernel
theorem dX3_unlock_9 : decode cX3_unlock 9 = .ok (.astore 4, 2) := by decide +kernel
theorem dX3_unlock_11 : decode cX3_unlock 11 = .ok (.aload_n 0, 1) := by decide +kernel
theorem dX3_unlock_12 : decode cX3_unlock 12 = .ok (.iload_n 2, 1) := by decide +kernel
theorem dX3_unlock_13 : decode cX3_unlock 13 = .ok (.iload_n 3, 1) := by decide +kernel
theorem dX3_unlock_14 : decode cX3_unlock 14 = .ok (.invokevirtual 201, 3) := by decide +kernel
theorem dX3_unlock_17 : decode cX3_unlock 17 = .ok (.aload 4, 2) := by decide +kernel
theorem dX3_unlock_19 : decode cX3_unlock 19 = .ok (.iload_n 2, 1) := by decide +kernel
theorem dX3_unlock_20 : decode cX3_unlock 20 = .ok (.iload_n 3, 1) := by decide +kernel
theorem dX3_unlock_21 : decode cX3_unlock 21 = .ok (.iconst 0, 1) := by decide +kernel
theorem dX3_unlock_22 : decode cX3_unlock 22 = .ok (.invokevirtual 208, 3) := by decide +kernel
theorem dX3_unlock_25 : decode cX3_unlock 25 = .ok (.ireturn, 1) := by decide +kernel
theorem dX3_whoHinders_0 : decode cX3_whoHinders 0 = .ok (.aload_n 0, 1) := by decide +kernel
theorem dX3_whoHinders_1 : decode cX3_whoHinders 1 = .ok (.invokevirtual 81, 3) := by decide +kernel
theorem dX3_whoHinders_4 : decode cX3_whoHinders 4 = .ok (.aload_n 0, 1) := by decide +kernel
theorem dX3_whoHinders_5 : decode cX3_whoHinders 5 = .ok (.iload_n 1, 1) := by decide +kernel
theorem dX3_whoHinders_6 : decode cX3_whoHinders 6 = .ok (.invokevirtual 128, 3) := by decide +kernel
theorem dX3_whoHinders_9 : decode cX3_whoHinders 9 = .ok (.pop, 1) := by decide +kernel
theorem dX3_whoHinders_10 : decode cX3_whoHinders 10 = .ok (.aload_n 0, 1) := by decide +kernel
theorem dX3_whoHinders_11 : decode cX3_whoHinders 11 = .ok (.iload_n 2, 1) := by decide +kernel
theorem dX3_whoHinders_12 : decode cX3_whoHinders 12 = .ok (.iload_n 3, 1) := by decide +kernel
theorem dX3_whoHinders_13 : decode cX3_whoHinders 13 = .ok (.invokevirtual 201, 3) := by decide +kernel
theorem dX3_whoHinders_16 : decode cX3_whoHinders 16 = .ok (.aload_n 0, 1) := by decide +kernel
theorem dX3_whoHinders_17 : decode cX3_whoHinders 17 = .ok (.iload_n 1, 1) := by decide +kernel
theorem dX3_whoHinders_18 : decode cX3_whoHinders 18 = .ok (.iload_n 2, 1) := by decide +kernel
theorem dX3_whoHinders_19 : decode cX3_whoHinders 19 = .ok (.iload_n 3, 1) := by decide +kernel
theorem dX3_whoHinders_20 : decode cX3_whoHinders 20 = .ok (.iload 4, 2) := by decide +kernel
theorem dX3_whoHinders_22 : decode cX3_whoHinders 22 = .ok (.invokevirtual 204, 3) := by decide +kernel
theorem dX3_whoHinders_25 : decode cX3_whoHinders 25 = .ok (.ireturn, 1) := by decide +kernel
theorem dX3_lockRows_0 : decode cX3_lockRows 0 = .ok (.aload_n 0, 1) := by decide +kernel
theorem dX3_lockRows_1 : decode cX3_lockRows 1 = .ok (.invokevirtual 81, 3) := by decide +kernel
theorem dX3_lockRows_4 : decode cX3_lockRows 4 = .ok (.aload_n 0, 1) := by decide +kernel
theorem dX3_lockRows_5 : decode cX3_lockRows 5 = .ok (.iload_n 1, 1) := by decide +kernel
theorem dX3_lockRows_6 : decode cX3_lockRows 6 = .ok (.invokevirtual 128, 3) := by decide +kernel
theorem dX3_lockRows_9 : decode cX3_lockRows 9 = .ok (.invokevirtual 211, 3) := by decide +kernel
theorem dX3_lockRows_12 : decode cX3_lockRows 12 = .ok (.ireturn, 1) := by decide +kernel
theorem dX3_lockAt_0 : decode cX3_lockAt 0 = .ok (.aload_n 0, 1) := by decide +kernel
theorem dX3_lockAt_1 : decode cX3_lockAt 1 = .ok (.invokevirtual 81, 3) := by decide +kernel
theorem dX3_lockAt_4 : decode cX3_lockAt 4 = .ok (.aload_n 0, 1) := by decide +kernel
theorem dX3_lockAt_5 : decode cX3_lockAt 5 = .ok (.iload_n 1, 1) := by decide +kernel
theorem dX3_lockAt_6 : decode cX3_lockAt 6 = .ok (.invokevirtual 84, 3) := by decide +kernel
theorem dX3_lockAt_9 : decode cX3_lockAt 9 = .ok (.aload_n 0, 1) := by decide +kernel
theorem dX3_lockAt_10 : decode cX3_lockAt 10 = .ok (.iload_n 2, 1) := by decide +kernel
theorem dX3_lockAt_11 : decode cX3_lockAt 11 = .ok (.iconst 0, 1) := by decide +kernel
theorem dX3_lockAt_12 : decode cX3_lockAt 12 = .ok (.sipush 319, 3) := by decide +kernel
theorem dX3_lockAt_15 : decode cX3_lockAt 15 = .ok (.invokevirtual 54, 3) := by decide +kernel
theorem dX3_lockAt_18 : decode cX3_lockAt 18 = .ok (.iconst 0, 1) := by decide +kernel
theorem dX3_lockAt_19 : decode cX3_lockAt 19 = .ok (.istore_n 3, 1) := by decide +kernel
theorem dX3_lockAt_20 : decode cX3_lockAt 20 = .ok (.iconst 0, 1) := by decide +kernel
theorem dX3_lockAt_21 : decode cX3_lockAt 21 = .ok (.istore 4, 2) := by decide +kernel
theorem dX3_lockAt_23 : decode cX3_lockAt 23 = .ok (.iload 4, 2) := by decide +kernel
theorem dX3_lockAt_25 : decode cX3_lockAt 25 = .ok (.aload_n 0, 1) := by decide +kernel
theorem dX3_lockAt_26 : decode cX3_lockAt 26 = .ok (.getfield 24, 3) := by decide +kernel
theorem dX3_lockAt_29 : decode cX3_lockAt 29 = .ok (.arraylength, 1) := by decide +kernel
theorem dX3_lockAt_30 : decode cX3_lockAt 30 = .ok (.if_icmp .ge 39, 3) := by decide +kernel
theorem dX3_lockAt_33 : decode cX3_lockAt 33 = .ok (.aload_n 0, 1) := by decide +kernel
theorem dX3_lockAt_34 : decode cX3_lockAt 34 = .ok (.getfield 24, 3) := by decide +kernel
theorem dX3_lockAt_37 : decode cX3_lockAt 37 = .ok (.iload 4, 2) := by decide +kernel
theorem dX3_lockAt_39 : decode cX3_lockAt 39 = .ok (.aaload, 1) := by decide +kernel
theorem dX3_lockAt_40 : decode cX3_lockAt 40 = .ok (.iload_n 1, 1) := by decide +kernel
theorem dX3_lockAt_41 : decode cX3_lockAt 41 = .ok (.invokevirtual 215, 3) := by decide +kernel
theorem dX3_lockAt_44 : decode cX3_lockAt 44 = .ok (.ifCond .eq 19, 3) := by decide +kernel
theorem dX3_lockAt_47 : decode cX3_lockAt 47 = .ok (.iload_n 3, 1) := by decide +kernel
theorem dX3_lockAt_48 : decode cX3_lockAt 48 = .ok (.aload_n 0, 1) := by decide +kernel
theorem dX3_lockAt_49 : decode cX3_lockAt 49 = .ok (.getfield 24, 3) := by decide +kernel
theorem dX3_lockAt_52 : decode cX3_lockAt 52 = .ok (.iload 4, 2) := by decide +kernel
theorem dX3_lockAt_54 : decode cX3_lockAt 54 = .ok (.aaload, 1) := by decide +kernel
theorem dX3_lockAt_55 : decode cX3_lockAt 55 = .ok (.iload_n 2, 1) := by decide +kernel
theorem dX3_lockAt_56 : decode cX3_lockAt 56 = .ok (.invokevirtual 218, 3) := by decide +kernel
theorem dX3_lockAt_59 : decode cX3_lockAt 59 = .ok (.invokestatic 198, 3) := by decide +kernel
theorem dX3_lockAt_62 : decode cX3_lockAt 62 = .ok (.istore_n 3, 1) := by decide +kernel
theorem dX3_lockAt_63 : decode cX3_lockAt 63 = .ok (.iinc 4 1, 3) := by decide +kernel
theorem dX3_lockAt_66 : decode cX3_lockAt 66 = .ok (.goto (-43), 3) := by decide +kernel
theorem dX3_lockAt_69 : decode cX3_lockAt 69 = .ok (.iload_n 3, 1) := by decide +kernel
theorem dX3_lockAt_70 : decode cX3_lockAt 70 = .ok (.ireturn, 1) := by decide +kernel
theorem dX3_nodeOf_0 : decode cX3_nodeOf 0 = .ok (.aload_n 0, 1) := by decide +kernel
theorem dX3_nodeOf_1 : decode cX3_nodeOf 1 = .ok (.invokevirtual 81, 3) := by decide +kernel
theorem dX3_nodeOf_4 : decode cX3_nodeOf 4 = .ok (.aload_n 0, 1) := by decide +kernel
theorem dX3_nodeOf_5 : decode cX3_nodeOf 5 = .ok (.iload_n 1, 1) := by decide +kernel
theorem dX3_nodeOf_6 : decode cX3_nodeOf 6 = .ok (.invokevirtual 128, 3) := by decide +kernel
theorem dX3_nodeOf_9 : decode cX3_nodeOf 9 = .ok (.getfield 135, 3) := by decide +kernel
theorem dX3_nodeOf_12 : decode cX3_nodeOf 12 = .ok (.ireturn, 1) := by decide +kernel
theorem dX3_positionOf_0 : decode cX3_positionOf 0 = .ok (.aload_n 0, 1) := by decide +kernel
theorem dX3_positionOf_1 : decode cX3_positionOf 1 = .ok (.invokevirtual 81, 3) := by decide +kernel
theorem dX3_positionOf_4 : decode cX3_positionOf 4 = .ok (.aload_n 0, 1) := by decide +kernel
theorem dX3_positionOf_5 : decode cX3_positionOf 5 = .ok (.iload_n 1, 1) := by decide +kernel
theorem dX3_positionOf_6 : decode cX3_positionOf 6 = .ok (.invokevirtual 128, 3) := by decide +kernel
theorem dX3_positionOf_9 : decode cX3_positionOf 9 = .ok (.getfield 132, 3) := by decide +kernel
theorem dX3_positionOf_12 : decode cX3_positionOf 12 = .ok (.ireturn, 1) := by decide +kernel
theorem dX3_handles_0 : decode cX3_handles 0 = .ok (.aload_n 0, 1) := by decide +kernel
theorem dX3_handles_1 : decode cX3_handles 1 = .ok (.invokevirtual 81, 3) := by decide +kernel
theorem dX3_handles_4 : decode cX3_handles 4 = .ok (.iconst 0, 1) := by decide +kernel
theorem dX3_handles_5 : decode cX3_handles 5 = .ok (.istore_n 1, 1) := by decide +kernel
theorem dX3_handles_6 : decode cX3_handles 6 = .ok (.iconst 0, 1) := by decide +kernel
theorem dX3_handles_7 : decode cX3_handles 7 = .ok (.istore_n 2, 1) := by decide +kernel
theorem dX3_handles_8 : decode cX3_handles 8 = .ok (.iload_n 2, 1) := by decide +kernel
theorem dX3_handles_9 : decode cX3_handles 9 = .ok (.aload_n 0, 1) := by decide +kernel
theorem dX3_handles_10 : decode cX3_handles 10 = .ok (.getfield 24, 3) := by decide +kernel
theorem dX3_handles_13 : decode cX3_handles 13 = .ok (.arraylength, 1) := by decide +kernel
theorem dX3_handles_14 : decode cX3_handles 14 = .ok (.if_icmp .ge 24, 3) := by decide +kernel
theorem dX3_handles_17 : decode cX3_handles 17 = .ok (.aload_n 0, 1) := by decide +kernel
theorem dX3_handles_18 : decode cX3_handles 18 = .ok (.getfield 24, 3) := by decide +kernel
theorem dX3_handles_21 : decode cX3_handles 21 = .ok (.iload_n 2, 1) := by decide +kernel
theorem dX3_handles_22 : decode cX3_handles 22 = .ok (.aaload, 1) := by decide +kernel
theorem dX3_handles_23 : decode cX3_handles 23 = .ok (.getfield 168, 3) := by decide +kernel
theorem dX3_handles_26 : decode cX3_handles 26 = .ok (.ifCond .eq 6, 3) := by decide +kernel
theorem dX3_handles_29 : decode cX3_handles 29 = .ok (.iinc 1 1, 3) := by decide +kernel
theorem dX3_handles_32 : decode cX3_handles 32 = .ok (.iinc 2 1, 3) := by decide +kernel
theorem dX3_handles_35 : decode cX3_handles 35 = .ok (.goto (-27), 3) := by decide +kernel
theorem dX3_handles_38 : decode cX3_handles 38 = .ok (.iload_n 1, 1) := by decide +kernel
theorem dX3_handles_39 : decode cX3_handles 39 = .ok (.ireturn, 1) := by decide +kernel
theorem dX3_sync_0 : decode cX3_sync 0 = .ok (.aload_n 0, 1) := by decide +kernel
theorem dX3_sync_1 : decode cX3_sync 1 = .ok (.invokevirtual 81, 3) := by decide +kernel
theorem dX3_sync_4 : decode cX3_sync 4 = .ok (.aload_n 0, 1) := by decide +kernel
theorem dX3_sync_5 : decode cX3_sync 5 = .ok (.getfield 28, 3) := by decide +kernel
theorem dX3_sync_8 : decode cX3_sync 8 = .ok (.ifCond .eq 10, 3) := by decide +kernel
theorem dX3_sync_11 : decode cX3_sync 11 = .ok (.aload_n 0, 1) := by decide +kernel
theorem dX3_sync_12 : decode cX3_sync 12 = .ok (.invokevirtual 221, 3) := by decide +kernel
theorem dX3_sync_15 : decode cX3_sync 15 = .ok (.ifCond .eq 7, 3) := by decide +kernel
theorem dX3_sync_18 : decode cX3_sync 18 = .ok (.iconst 1, 1) := by decide +kernel
theorem dX3_sync_19 : decode cX3_sync 19 = .ok (.goto 4, 3) := by decide +kernel
theorem dX3_sync_22 : decode cX3_sync 22 = .ok (.iconst 0, 1) := by decide +kernel
theorem dX3_sync_23 : decode cX3_sync 23 = .ok (.ireturn, 1) := by decide +kernel
theorem dX3_flush_0 : decode cX3_flush 0 = .ok (.aload_n 0, 1) := by decide +kernel
theorem dX3_flush_1 : decode cX3_flush 1 = .ok (.invokevirtual 81, 3) := by decide +kernel
theorem dX3_flush_4 : decode cX3_flush 4 = .ok (.aload_n 0, 1) := by decide +kernel
theorem dX3_flush_5 : decode cX3_flush 5 = .ok (.getfield 28, 3) := by decide +kernel
theorem dX3_flush_8 : decode cX3_flush 8 = .ok (.ifCond .le 12, 3) := by decide +kernel
theorem dX3_flush_11 : decode cX3_flush 11 = .ok (.aload_n 0, 1) := by decide +kernel
theorem dX3_flush_12 : decode cX3_flush 12 = .ok (.invokevirtual 221, 3) := by decide +kernel
theorem dX3_flush_15 : decode cX3_flush 15 = .ok (.ifCond .ne 5, 3) := by decide +kernel
theorem dX3_flush_18 : decode cX3_flush 18 = .ok (.iconst 0, 1) := by decide +kernel
theorem dX3_flush_19 : decode cX3_flush 19 = .ok (.ireturn, 1) := by decide +kernel
theorem dX3_flush_20 : decode cX3_flush 20 = .ok (.aload_n 0, 1) := by decide +kernel
theorem dX3_flush_21 : decode cX3_flush 21 = .ok (.getfield 39, 3) := by decide +kernel
theorem dX3_flush_24 : decode cX3_flush 24 = .ok (.iconst 2, 1) := by decide +kernel
theorem dX3_flush_25 : decode cX3_flush 25 = .ok (.if_icmp .ne 14, 3) := by decide +kernel
theorem dX3_flush_28 : decode cX3_flush 28 = .ok (.aload_n 0, 1) := by decide +kernel
theorem dX3_flush_29 : decode cX3_flush 29 = .ok (.iconst (-1), 1) := by decide +kernel
theorem dX3_flush_30 : decode cX3_flush 30 = .ok (.putfield 39, 3) := by decide +kernel
theorem dX3_flush_33 : decode cX3_flush 33 = .ok (.aload_n 0, 1) := by decide +kernel
theorem dX3_flush_34 : decode cX3_flush 34 = .ok (.invokevirtual 224, 3) := by decide +kernel
theorem dX3_flush_37 : decode cX3_flush 37 = .ok (.iconst 0, 1) := by decide +kernel
theorem dX3_flush_38 : decode cX3_flush 38 = .ok (.ireturn, 1) := by decide +kernel
theorem dX3_flush_39 : decode cX3_flush 39 = .ok (.iconst 1, 1) := by decide +kernel
theorem dX3_flush_40 : decode cX3_flush 40 = .ok (.ireturn, 1) := by decide +kernel
theorem dX3_writeBack_0 : decode cX3_writeBack 0 = .ok (.aload_n 0, 1) := by decide +kernel
theorem dX3_writeBack_1 : decode cX3_writeBack 1 = .ok (.invokevirtual 81, 3) := by decide +kernel
theorem dX3_writeBack_4 : decode cX3_writeBack 4 = .ok (.aload_n 0, 1) := by decide +kernel
theorem dX3_writeBack_5 : decode cX3_writeBack 5 = .ok (.iload_n 2, 1) := by decide +kernel
theorem dX3_writeBack_6 : decode cX3_writeBack 6 = .ok (.iconst 0, 1) := by decide +kernel
theorem dX3_writeBack_7 : decode cX3_writeBack 7 = .ok (.bipush 50, 2) := by decide +kernel
theorem dX3_writeBack_9 : decode cX3_writeBack 9 = .ok (.invokevirtual 54, 3) := by decide +kernel
theorem dX3_writeBack_12 : decode cX3_writeBack 12 = .ok (.return_, 1) := by decide +kernel
theorem dX3_cut_0 : decode cX3_cut 0 = .ok (.aload_n 0, 1) := by decide +kernel
theorem dX3_cut_1 : decode cX3_cut 1 = .ok (.invokevirtual 81, 3) := by decide +kernel
theorem dX3_cut_4 : decode cX3_cut 4 = .ok (.aload_n 0, 1) := by decide +kernel
theorem dX3_cut_5 : decode cX3_cut 5 = .ok (.invokevirtual 224, 3) := by decide +kernel
theorem dX3_cut_8 : decode cX3_cut 8 = .ok (.return_, 1) := by decide +kernel
theorem dX3_fail_0 : decode cX3_fail 0 = .ok (.aload_n 0, 1) := by decide +kernel
theorem dX3_fail_1 : decode cX3_fail 1 = .ok (.iload_n 1, 1) := by decide +kernel
theorem dX3_fail_2 : decode cX3_fail 2 = .ok (.iconst 0, 1) := by decide +kernel
theorem dX3_fail_3 : decode cX3_fail 3 = .ok (.iconst 3, 1) := by decide +kernel
theorem dX3_fail_4 : decode cX3_fail 4 = .ok (.invokevirtual 54, 3) := by decide +kernel
theorem dX3_fail_7 : decode cX3_fail 7 = .ok (.aload_n 0, 1) := by decide +kernel
theorem dX3_fail_8 : decode cX3_fail 8 = .ok (.iload_n 2, 1) := by decide +kernel
theorem dX3_fail_9 : decode cX3_fail 9 = .ok (.iconst 1, 1) := by decide +kernel
theorem dX3_fail_10 : decode cX3_fail 10 = .ok (.bipush 40, 2) := by decide +kernel
theorem dX3_fail_12 : decode cX3_fail 12 = .ok (.invokevirtual 54, 3) := by decide +kernel
theorem dX3_fail_15 : decode cX3_fail 15 = .ok (.aload_n 0, 1) := by decide +kernel
theorem dX3_fail_16 : decode cX3_fail 16 = .ok (.iload_n 3, 1) := by decide +kernel
theorem dX3_fail_17 : decode cX3_fail 17 = .ok (.iconst 0, 1) := by decide +kernel
theorem dX3_fail_18 : decode cX3_fail 18 = .ok (.bipush 40, 2) := by decide +kernel
theorem dX3_fail_20 : decode cX3_fail 20 = .ok (.invokevirtual 54, 3) := by decide +kernel
theorem dX3_fail_23 : decode cX3_fail 23 = .ok (.aload_n 0, 1) := by decide +kernel
theorem dX3_fail_24 : decode cX3_fail 24 = .ok (.iload_n 1, 1) := by decide +kernel
theorem dX3_fail_25 : decode cX3_fail 25 = .ok (.putfield 39, 3) := by decide +kernel
theorem dX3_fail_28 : decode cX3_fail 28 = .ok (.aload_n 0, 1) := by decide +kernel
theorem dX3_fail_29 : decode cX3_fail 29 = .ok (.iload_n 3, 1) := by decide +kernel
theorem dX3_fail_30 : decode cX3_fail 30 = .ok (.putfield 42, 3) := by decide +kernel
theorem dX3_fail_33 : decode cX3_fail 33 = .ok (.return_, 1) := by decide +kernel
theorem dX3_mount_0 : decode cX3_mount 0 = .ok (.aload_n 0, 1) := by decide +kernel
theorem dX3_mount_1 : decode cX3_mount 1 = .ok (.getfield 32, 3) := by decide +kernel
theorem dX3_mount_4 : decode cX3_mount 4 = .ok (.ifCond .ne 13, 3) := by decide +kernel
theorem dX3_mount_7 : decode cX3_mount 7 = .ok (.new 227, 3) := by decide +kernel
theorem dX3_mount_10 : decode cX3_mount 10 = .ok (.dup, 1) := by decide +kernel
theorem dX3_mount_11 : decode cX3_mount 11 = .ok (.ldc 229, 2) := by decide +kernel
theorem dX3_mount_13 : decode cX3_mount 13 = .ok (.invokespecial 231, 3) := by decide +kernel
theorem dX3_mount_16 : decode cX3_mount 16 = .ok (.athrow, 1) := by decide +kernel
theorem dX3_mount_17 : decode cX3_mount 17 = .ok (.aload_n 0, 1) := by decide +kernel
theorem dX3_mount_18 : decode cX3_mount 18 = .ok (.getfield 39, 3) := by decide +kernel
theorem dX3_mount_21 : decode cX3_mount 21 = .ok (.iconst 3, 1) := by decide +kernel
theorem dX3_mount_22 : decode cX3_mount 22 = .ok (.if_icmp .ne 11, 3) := by decide +kernel
theorem dX3_mount_25 : decode cX3_mount 25 = .ok (.aload_n 0, 1) := by decide +kernel
theorem dX3_mount_26 : decode cX3_mount 26 = .ok (.iconst (-1), 1) := by decide +kernel
theorem dX3_mount_27 : decode cX3_mount 27 = .ok (.putfield 39, 3) := by decide +kernel
theorem dX3_mount_30 : decode cX3_mount 30 = .ok (.bipush (-9), 2) := by decide +kernel
theorem dX3_mount_32 : decode cX3_mount 32 = .ok (.ireturn, 1) := by decide +kernel
theorem dX3_mount_33 : decode cX3_mount 33 = .ok (.aload_n 0, 1) := by decide +kernel
theorem dX3_mount_34 : decode cX3_mount 34 = .ok (.getfield 19, 3) := by decide +kernel
theorem dX3_mount_37 : decode cX3_mount 37 = .ok (.invokevirtual 234, 3) := by decide +kernel
theorem dX3_mount_40 : decode cX3_mount 40 = .ok (.istore_n 1, 1) := by decide +kernel
theorem dX3_mount_41 : decode cX3_mount 41 = .ok (.aload_n 0, 1) := by decide +kernel
theorem dX3_mount_42 : decode cX3_mount 42 = .ok (.getfield 10, 3) := by decide +kernel
theorem dX3_mount_45 : decode cX3_mount 45 = .ok (.aload_n 0, 1) := by decide +kernel
theorem dX3_mount_46 : decode cX3_mount 46 = .ok (.getfield 19, 3) := by decide +kernel
theorem dX3_mount_49 : decode cX3_mount 49 = .ok (.invokevirtual 237, 3) := by decide +kernel
theorem dX3_mount_52 : decode cX3_mount 52 = .ok (.aload_n 0, 1) := by decide +kernel
theorem dX3_mount_53 : decode cX3_mount 53 = .ok (.iconst 0, 1) := by decide +kernel
theorem dX3_mount_54 : decode cX3_mount 54 = .ok (.putfield 32, 3) := by decide +kernel
theorem dX3_mount_57 : decode cX3_mount 57 = .ok (.aload_n 0, 1) := by decide +kernel
theorem dX3_mount_58 : decode cX3_mount 58 = .ok (.dup, 1) := by decide +kernel
theorem dX3_mount_59 : decode cX3_mount 59 = .ok (.getfield 36, 3) := by decide +kernel
theorem dX3_mount_62 : decode cX3_mount 62 = .ok (.iconst 1, 1) := by decide +kernel
theorem dX3_mount_63 : decode cX3_mount 63 = .ok (.iadd, 1) := by decide +kernel
theorem dX3_mount_64 : decode cX3_mount 64 = .ok (.putfield 36, 3) := by decide +kernel
theorem dX3_mount_67 : decode cX3_mount 67 = .ok (.iload_n 1, 1) := by decide +kernel
theorem dX3_mount_68 : decode cX3_mount 68 = .ok (.ireturn, 1) := by decide +kernel
theorem dX3_isDown_0 : decode cX3_isDown 0 = .ok (.aload_n 0, 1) := by decide +kernel
theorem dX3_isDown_1 : decode cX3_isDown 1 = .ok (.getfield 32, 3) := by decide +kernel
theorem dX3_isDown_4 : decode cX3_isDown 4 = .ok (.ireturn, 1) := by decide +kernel
theorem dX3_mounts_0 : decode cX3_mounts 0 = .ok (.aload_n 0, 1) := by decide +kernel
theorem dX3_mounts_1 : decode cX3_mounts 1 = .ok (.getfield 36, 3) := by decide +kernel
theorem dX3_mounts_4 : decode cX3_mounts 4 = .ok (.ireturn, 1) := by decide +kernel
theorem dX3_waiting_0 : decode cX3_waiting 0 = .ok (.aload_n 0, 1) := by decide +kernel
theorem dX3_waiting_1 : decode cX3_waiting 1 = .ok (.invokevirtual 81, 3) := by decide +kernel
theorem dX3_waiting_4 : decode cX3_waiting 4 = .ok (.aload_n 0, 1) := by decide +kernel
theorem dX3_waiting_5 : decode cX3_waiting 5 = .ok (.getfield 28, 3) := by decide +kernel
theorem dX3_waiting_8 : decode cX3_waiting 8 = .ok (.ireturn, 1) := by decide +kernel
theorem dX3_changes_0 : decode cX3_changes 0 = .ok (.aload_n 0, 1) := by decide +kernel
theorem dX3_changes_1 : decode cX3_changes 1 = .ok (.invokevirtual 81, 3) := by decide +kernel
theorem dX3_changes_4 : decode cX3_changes 4 = .ok (.aload_n 0, 1) := by decide +kernel
theorem dX3_changes_5 : decode cX3_changes 5 = .ok (.getfield 10, 3) := by decide +kernel
theorem dX3_changes_8 : decode cX3_changes 8 = .ok (.getfield 241, 3) := by decide +kernel
theorem dX3_changes_11 : decode cX3_changes 11 = .ok (.ireturn, 1) := by decide +kernel
theorem dX3_nodes_0 : decode cX3_nodes 0 = .ok (.aload_n 0, 1) := by decide +kernel
theorem dX3_nodes_1 : decode cX3_nodes 1 = .ok (.invokevirtual 81, 3) := by decide +kernel
theorem dX3_nodes_4 : decode cX3_nodes 4 = .ok (.aload_n 0, 1) := by decide +kernel
theorem dX3_nodes_5 : decode cX3_nodes 5 = .ok (.getfield 10, 3) := by decide +kernel
theorem dX3_nodes_8 : decode cX3_nodes 8 = .ok (.invokevirtual 244, 3) := by decide +kernel
theorem dX3_nodes_11 : decode cX3_nodes 11 = .ok (.ireturn, 1) := by decide +kernel
theorem dX3_typeOf_0 : decode cX3_typeOf 0 = .ok (.aload_n 0, 1) := by decide +kernel
theorem dX3_typeOf_1 : decode cX3_typeOf 1 = .ok (.invokevirtual 81, 3) := by decide +kernel
theorem dX3_typeOf_4 : decode cX3_typeOf 4 = .ok (.aload_n 0, 1) := by decide +kernel
theorem dX3_typeOf_5 : decode cX3_typeOf 5 = .ok (.getfield 10, 3) := by decide +kernel
theorem dX3_typeOf_8 : decode cX3_typeOf 8 = .ok (.iload_n 1, 1) := by decide +kernel
theorem dX3_typeOf_9 : decode cX3_typeOf 9 = .ok (.invokevirtual 68, 3) := by decide +kernel
theorem dX3_typeOf_12 : decode cX3_typeOf 12 = .ok (.getfield 88, 3) := by decide +kernel
theorem dX3_typeOf_15 : decode cX3_typeOf 15 = .ok (.ireturn, 1) := by decide +kernel
theorem dX3_linksOf_0 : decode cX3_linksOf 0 = .ok (.aload_n 0, 1) := by decide +kernel
theorem dX3_linksOf_1 : decode cX3_linksOf 1 = .ok (.iload_n 1, 1) := by decide +kernel
theorem dX3_linksOf_2 : decode cX3_linksOf 2 = .ok (.invokevirtual 247, 3) := by decide +kernel
theorem dX3_linksOf_5 : decode cX3_linksOf 5 = .ok (.getfield 95, 3) := by decide +kernel
theorem dX3_linksOf_8 : decode cX3_linksOf 8 = .ok (.ireturn, 1) := by decide +kernel
theorem dX3_ownerOf_0 : decode cX3_ownerOf 0 = .ok (.aload_n 0, 1) := by decide +kernel
theorem dX3_ownerOf_1 : decode cX3_ownerOf 1 = .ok (.iload_n 1, 1) := by decide +kernel
theorem dX3_ownerOf_2 : decode cX3_ownerOf 2 = .ok (.invokevirtual 247, 3) := by decide +kernel
theorem dX3_ownerOf_5 : decode cX3_ownerOf 5 = .ok (.getfield 159, 3) := by decide +kernel
theorem dX3_ownerOf_8 : decode cX3_ownerOf 8 = .ok (.ireturn, 1) := by decide +kernel
theorem dX3_sizeOf_0 : decode cX3_sizeOf 0 = .ok (.aload_n 0, 1) := by decide +kernel
theorem dX3_sizeOf_1 : decode cX3_sizeOf 1 = .ok (.iload_n 1, 1) := by decide +kernel
theorem dX3_sizeOf_2 : decode cX3_sizeOf 2 = .ok (.invokevirtual 247, 3) := by decide +kernel
theorem dX3_sizeOf_5 : decode cX3_sizeOf 5 = .ok (.invokevirtual 250, 3) := by decide +kernel
theorem dX3_sizeOf_8 : decode cX3_sizeOf 8 = .ok (.ireturn, 1) := by decide +kernel
theorem dX3_blocksOf_0 : decode cX3_blocksOf 0 = .ok (.aload_n 0, 1) := by decide +kernel
theorem dX3_blocksOf_1 : decode cX3_blocksOf 1 = .ok (.iload_n 1, 1) := by decide +kernel
theorem dX3_blocksOf_2 : decode cX3_blocksOf 2 = .ok (.invokevirtual 247, 3) := by decide +kernel
theorem dX3_blocksOf_5 : decode cX3_blocksOf 5 = .ok (.invokevirtual 253, 3) := by decide +kernel
theorem dX3_blocksOf_8 : decode cX3_blocksOf 8 = .ok (.ireturn, 1) := by decide +kernel
theorem dX3_sharedOf_0 : decode cX3_sharedOf 0 = .ok (.aload_n 0, 1) := by decide +kernel
theorem dX3_sharedOf_1 : decode cX3_sharedOf 1 = .ok (.getfield 10, 3) := by decide +kernel
theorem dX3_sharedOf_4 : decode cX3_sharedOf 4 = .ok (.aload_n 0, 1) := by decide +kernel
theorem dX3_sharedOf_5 : decode cX3_sharedOf 5 = .ok (.iload_n 1, 1) := by decide +kernel
theorem dX3_sharedOf_6 : decode cX3_sharedOf 6 = .ok (.invokevirtual 247, 3) := by decide +kernel
theorem dX3_sharedOf_9 : decode cX3_sharedOf 9 = .ok (.invokevirtual 256, 3) := by decide +kernel
theorem dX3_sharedOf_12 : decode cX3_sharedOf 12 = .ok (.ireturn, 1) := by decide +kernel
theorem dX3_byteAt_0 : decode cX3_byteAt 0 = .ok (.aload_n 0, 1) := by decide +kernel
theorem dX3_byteAt_1 : decode cX3_byteAt 1 = .ok (.iload_n 1, 1) := by decide +kernel
theorem dX3_byteAt_2 : decode cX3_byteAt 2 = .ok (.invokevirtual 247, 3) := by decide +kernel
theorem dX3_byteAt_5 : decode cX3_byteAt 5 = .ok (.astore_n 3, 1) := by decide +kernel
theorem dX3_byteAt_6 : decode cX3_byteAt 6 = .ok (.aload_n 0, 1) := by decide +kernel
theorem dX3_byteAt_7 : decode cX3_byteAt 7 = .ok (.iload_n 2, 1) := by decide +kernel
theorem dX3_byteAt_8 : decode cX3_byteAt 8 = .ok (.iconst 0, 1) := by decide +kernel
theorem dX3_byteAt_9 : decode cX3_byteAt 9 = .ok (.sipush 319, 3) := by decide +kernel
theorem dX3_byteAt_12 : decode cX3_byteAt 12 = .ok (.invokevirtual 54, 3) := by decide +kernel
theorem dX3_byteAt_15 : decode cX3_byteAt 15 = .ok (.aload_n 0, 1) := by decide +kernel
theorem dX3_byteAt_16 : decode cX3_byteAt 16 = .ok (.getfield 10, 3) := by decide +kernel
theorem dX3_byteAt_19 : decode cX3_byteAt 19 = .ok (.aload_n 3, 1) := by decide +kernel
theorem dX3_byteAt_20 : decode cX3_byteAt 20 = .ok (.iload_n 2, 1) := by decide +kernel
theorem dX3_byteAt_21 : decode cX3_byteAt 21 = .ok (.invokevirtual 193, 3) := by decide +kernel
theorem dX3_byteAt_24 : decode cX3_byteAt 24 = .ok (.ireturn, 1) := by decide +kernel
theorem dX3_isHole_0 : decode cX3_isHole 0 = .ok (.aload_n 0, 1) := by decide +kernel
theorem dX3_isHole_1 : decode cX3_isHole 1 = .ok (.iload_n 1, 1) := by decide +kernel
theorem dX3_isHole_2 : decode cX3_isHole 2 = .ok (.invokevirtual 247, 3) := by decide +kernel
theorem dX3_isHole_5 : decode cX3_isHole 5 = .ok (.astore_n 3, 1) := by decide +kernel
theorem dX3_isHole_6 : decode cX3_isHole 6 = .ok (.aload_n 0, 1) := by decide +kernel
theorem dX3_isHole_7 : decode cX3_isHole 7 = .ok (.iload_n 2, 1) := by decide +kernel
theorem dX3_isHole_8 : decode cX3_isHole 8 = .ok (.iconst 0, 1) := by decide +kernel
theorem dX3_isHole_9 : decode cX3_isHole 9 = .ok (.bipush 19, 2) := by decide +kernel
theorem dX3_isHole_11 : decode cX3_isHole 11 = .ok (.invokevirtual 54, 3) := by decide +kernel
theorem dX3_isHole_14 : decode cX3_isHole 14 = .ok (.aload_n 3, 1) := by decide +kernel
theorem dX3_isHole_15 : decode cX3_isHole 15 = .ok (.getfield 88, 3) := by decide +kernel
theorem dX3_isHole_18 : decode cX3_isHole 18 = .ok (.iconst 1, 1) := by decide +kernel
theorem dX3_isHole_19 : decode cX3_isHole 19 = .ok (.if_icmp .ne 15, 3) := by decide +kernel
theorem dX3_isHole_22 : decode cX3_isHole 22 = .ok (.aload_n 3, 1) := by decide +kernel
theorem dX3_isHole_23 : decode cX3_isHole 23 = .ok (.iload_n 2, 1) := by decide +kernel
theorem dX3_isHole_24 : decode cX3_isHole 24 = .ok (.invokevirtual 153, 3) := by decide +kernel
theorem dX3_isHole_27 : decode cX3_isHole 27 = .ok (.ifCond .ne 7, 3) := by decide +kernel
theorem dX3_isHole_30 : decode cX3_isHole 30 = .ok (.iconst 1, 1) := by decide +kernel
theorem dX3_isHole_31 : decode cX3_isHole 31 = .ok (.goto 4, 3) := by decide +kernel
theorem dX3_isHole_34 : decode cX3_isHole 34 = .ok (.iconst 0, 1) := by decide +kernel
theorem dX3_isHole_35 : decode cX3_isHole 35 = .ok (.ireturn, 1) := by decide +kernel
theorem dX3_nextData_0 : decode cX3_nextData 0 = .ok (.aload_n 0, 1) := by decide +kernel
theorem dX3_nextData_1 : decode cX3_nextData 1 = .ok (.iload_n 1, 1) := by decide +kernel
theorem dX3_nextData_2 : decode cX3_nextData 2 = .ok (.invokevirtual 247, 3) := by decide +kernel
theorem dX3_nextData_5 : decode cX3_nextData 5 = .ok (.astore_n 3, 1) := by decide +kernel
theorem dX3_nextData_6 : decode cX3_nextData 6 = .ok (.aload_n 0, 1) := by decide +kernel
theorem dX3_nextData_7 : decode cX3_nextData 7 = .ok (.iload_n 2, 1) := by decide +kernel
theorem dX3_nextData_8 : decode cX3_nextData 8 = .ok (.iconst 0, 1) := by decide +kernel
theorem dX3_nextData_9 : decode cX3_nextData 9 = .ok (.sipush 320, 3) := by decide +kernel
theorem dX3_nextData_12 : decode cX3_nextData 12 = .ok (.invokevirtual 54, 3) := by decide +kernel
theorem dX3_nextData_15 : decode cX3_nextData 15 = .ok (.aload_n 3, 1) := by decide +kernel
theorem dX3_nextData_16 : decode cX3_nextData 16 = .ok (.iload_n 2, 1) := by decide +kernel
theorem dX3_nextData_17 : decode cX3_nextData 17 = .ok (.iconst 1, 1) := by decide +kernel
theorem dX3_nextData_18 : decode cX3_nextData 18 = .ok (.invokevirtual 260, 3) := by decide +kernel
theorem dX3_nextData_21 : decode cX3_nextData 21 = .ok (.ireturn, 1) := by decide +kernel
theorem dX3_nextHole_0 : decode cX3_nextHole 0 = .ok (.aload_n 0, 1) := by decide +kernel
theorem dX3_nextHole_1 : decode cX3_nextHole 1 = .ok (.iload_n 1, 1) := by decide +kernel
theorem dX3_nextHole_2 : decode cX3_nextHole 2 = .ok (.invokevirtual 247, 3) := by decide +kernel
theorem dX3_nextHole_5 : decode cX3_nextHole 5 = .ok (.astore_n 3, 1) := by decide +kernel
theorem dX3_nextHole_6 : decode cX3_nextHole 6 = .ok (.aload_n 0, 1) := by decide +kernel
theorem dX3_nextHole_7 : decode cX3_nextHole 7 = .ok (.iload_n 2, 1) := by decide +kernel
theorem dX3_nextHole_8 : decode cX3_nextHole 8 = .ok (.iconst 0, 1) := by decide +kernel
theorem dX3_nextHole_9 : decode cX3_nextHole 9 = .ok (.sipush 320, 3) := by decide +kernel
theorem dX3_nextHole_12 : decode cX3_nextHole 12 = .ok (.invokevirtual 54, 3) := by decide +kernel
theorem dX3_nextHole_15 : decode cX3_nextHole 15 = .ok (.aload_n 3, 1) := by decide +kernel
theorem dX3_nextHole_16 : decode cX3_nextHole 16 = .ok (.iload_n 2, 1) := by decide +kernel
theorem dX3_nextHole_17 : decode cX3_nextHole 17 = .ok (.iconst 0, 1) := by decide +kernel
theorem dX3_nextHole_18 : decode cX3_nextHole 18 = .ok (.invokevirtual 260, 3) := by decide +kernel
theorem dX3_nextHole_21 : decode cX3_nextHole 21 = .ok (.istore 4, 2) := by decide +kernel
theorem dX3_nextHole_23 : decode cX3_nextHole 23 = .ok (.iload 4, 2) := by decide +kernel
theorem dX3_nextHole_25 : decode cX3_nextHole 25 = .ok (.iconst (-1), 1) := by decide +kernel
theorem dX3_nextHole_26 : decode cX3_nextHole 26 = .ok (.if_icmp .ne 18, 3) := by decide +kernel
theorem dX3_nextHole_29 : decode cX3_nextHole 29 = .ok (.iload_n 2, 1) := by decide +kernel
theorem dX3_nextHole_30 : decode cX3_nextHole 30 = .ok (.aload_n 3, 1) := by decide +kernel
theorem dX3_nextHole_31 : decode cX3_nextHole 31 = .ok (.getfield 142, 3) := by decide +kernel
theorem dX3_nextHole_34 : decode cX3_nextHole 34 = .ok (.if_icmp .ge 10, 3) := by decide +kernel
theorem dX3_nextHole_37 : decode cX3_nextHole 37 = .ok (.aload_n 3, 1) := by decide +kernel
theorem dX3_nextHole_38 : decode cX3_nextHole 38 = .ok (.getfield 142, 3) := by decide +kernel
theorem dX3_nextHole_41 : decode cX3_nextHole 41 = .ok (.goto 5, 3) := by decide +kernel
theorem dX3_nextHole_44 : decode cX3_nextHole 44 = .ok (.iload 4, 2) := by decide +kernel
theorem dX3_nextHole_46 : decode cX3_nextHole 46 = .ok (.ireturn, 1) := by decide +kernel
theorem dX3_sameBytes_0 : decode cX3_sameBytes 0 = .ok (.aload_n 0, 1) := by decide +kernel
theorem dX3_sameBytes_1 : decode cX3_sameBytes 1 = .ok (.getfield 10, 3) := by decide +kernel
theorem dX3_sameBytes_4 : decode cX3_sameBytes 4 = .ok (.aload_n 0, 1) := by decide +kernel
theorem dX3_sameBytes_5 : decode cX3_sameBytes 5 = .ok (.iload_n 1, 1) := by decide +kernel
theorem dX3_sameBytes_6 : decode cX3_sameBytes 6 = .ok (.invokevirtual 247, 3) := by decide +kernel
theorem dX3_sameBytes_9 : decode cX3_sameBytes 9 = .ok (.aload_n 0, 1) := by decide +kernel
theorem dX3_sameBytes_10 : decode cX3_sameBytes 10 = .ok (.iload_n 2, 1) := by decide +kernel
theorem dX3_sameBytes_11 : decode cX3_sameBytes 11 = .ok (.invokevirtual 247, 3) := by decide +kernel
theorem dX3_sameBytes_14 : decode cX3_sameBytes 14 = .ok (.invokevirtual 264, 3) := by decide +kernel
theorem dX3_sameBytes_17 : decode cX3_sameBytes 17 = .ok (.ireturn, 1) := by decide +kernel
theorem dX3_lookup_0 : decode cX3_lookup 0 = .ok (.aload_n 0, 1) := by decide +kernel
theorem dX3_lookup_1 : decode cX3_lookup 1 = .ok (.iload_n 1, 1) := by decide +kernel
theorem dX3_lookup_2 : decode cX3_lookup 2 = .ok (.iload_n 2, 1) := by decide +kernel
theorem dX3_lookup_3 : decode cX3_lookup 3 = .ok (.invokevirtual 46, 3) := by decide +kernel
theorem dX3_lookup_6 : decode cX3_lookup 6 = .ok (.aload_n 0, 1) := by decide +kernel
theorem dX3_lookup_7 : decode cX3_lookup 7 = .ok (.getfield 10, 3) := by decide +kernel
theorem dX3_lookup_10 : decode cX3_lookup 10 = .ok (.iload_n 1, 1) := by decide +kernel
theorem dX3_lookup_11 : decode cX3_lookup 11 = .ok (.invokevirtual 68, 3) := by decide +kernel
theorem dX3_lookup_14 : decode cX3_lookup 14 = .ok (.astore_n 3, 1) := by decide +kernel
theorem dX3_lookup_15 : decode cX3_lookup 15 = .ok (.aload_n 3, 1) := by decide +kernel
theorem dX3_lookup_16 : decode cX3_lookup 16 = .ok (.getfield 88, 3) := by decide +kernel
theorem dX3_lookup_19 : decode cX3_lookup 19 = .ok (.iconst 2, 1) := by decide +kernel
theorem dX3_lookup_20 : decode cX3_lookup 20 = .ok (.if_icmp .ne 11, 3) := by decide +kernel
theorem dX3_lookup_23 : decode cX3_lookup 23 = .ok (.aload_n 3, 1) := by decide +kernel
theorem dX3_lookup_24 : decode cX3_lookup 24 = .ok (.iload_n 2, 1) := by decide +kernel
theorem dX3_lookup_25 : decode cX3_lookup 25 = .ok (.invokevirtual 98, 3) := by decide +kernel
theorem dX3_lookup_28 : decode cX3_lookup 28 = .ok (.goto 5, 3) := by decide +kernel
theorem dX3_lookup_31 : decode cX3_lookup 31 = .ok (.bipush (-3), 2) := by decide +kernel
theorem dX3_lookup_33 : decode cX3_lookup 33 = .ok (.ireturn, 1) := by decide +kernel
theorem dX3_follow_0 : decode cX3_follow 0 = .ok (.aload_n 0, 1) := by decide +kernel
theorem dX3_follow_1 : decode cX3_follow 1 = .ok (.iload_n 1, 1) := by decide +kernel
theorem dX3_follow_2 : decode cX3_follow 2 = .ok (.iload_n 2, 1) := by decide +kernel
theorem dX3_follow_3 : decode cX3_follow 3 = .ok (.invokevirtual 46, 3) := by decide +kernel
theorem dX3_follow_6 : decode cX3_follow 6 = .ok (.aload_n 0, 1) := by decide +kernel
theorem dX3_follow_7 : decode cX3_follow 7 = .ok (.getfield 10, 3) := by decide +kernel
theorem dX3_follow_10 : decode cX3_follow 10 = .ok (.iload_n 1, 1) := by decide +kernel
theorem dX3_follow_11 : decode cX3_follow 11 = .ok (.iload_n 2, 1) := by decide +kernel
theorem dX3_follow_12 : decode cX3_follow 12 = .ok (.invokevirtual 268, 3) := by decide +kernel
theorem dX3_follow_15 : decode cX3_follow 15 = .ok (.ireturn, 1) := by decide +kernel
theorem dX3_nameAt_0 : decode cX3_nameAt 0 = .ok (.aload_n 0, 1) := by decide +kernel
theorem dX3_nameAt_1 : decode cX3_nameAt 1 = .ok (.iload_n 1, 1) := by decide +kernel
theorem dX3_nameAt_2 : decode cX3_nameAt 2 = .ok (.invokevirtual 247, 3) := by decide +kernel
theorem dX3_nameAt_5 : decode cX3_nameAt 5 = .ok (.iload_n 2, 1) := by decide +kernel
theorem dX3_nameAt_6 : decode cX3_nameAt 6 = .ok (.invokevirtual 271, 3) := by decide +kernel
theorem dX3_nameAt_9 : decode cX3_nameAt 9 = .ok (.ireturn, 1) := by decide +kernel
theorem dX3_parentOf_0 : decode cX3_parentOf 0 = .ok (.aload_n 0, 1) := by decide +kernel
theorem dX3_parentOf_1 : decode cX3_parentOf 1 = .ok (.iload_n 1, 1) := by decide +kernel
theorem dX3_parentOf_2 : decode cX3_parentOf 2 = .ok (.invokevirtual 247, 3) := by decide +kernel
theorem dX3_parentOf_5 : decode cX3_parentOf 5 = .ok (.getfield 88, 3) := by decide +kernel
theorem dX3_parentOf_8 : decode cX3_parentOf 8 = .ok (.iconst 2, 1) := by decide +kernel
theorem dX3_parentOf_9 : decode cX3_parentOf 9 = .ok (.if_icmp .ne 17, 3) := by decide +kernel
theorem dX3_parentOf_12 : decode cX3_parentOf 12 = .ok (.aload_n 0, 1) := by decide +kernel
theorem dX3_parentOf_13 : decode cX3_parentOf 13 = .ok (.getfield 10, 3) := by decide +kernel
theorem dX3_parentOf_16 : decode cX3_parentOf 16 = .ok (.iload_n 1, 1) := by decide +kernel
theorem dX3_parentOf_17 : decode cX3_parentOf 17 = .ok (.invokevirtual 68, 3) := by decide +kernel
theorem dX3_parentOf_20 : decode cX3_parentOf 20 = .ok (.getfield 274, 3) := by decide +kernel
theorem dX3_parentOf_23 : decode cX3_parentOf 23 = .ok (.goto 4, 3) := by decide +kernel
theorem dX3_parentOf_26 : decode cX3_parentOf 26 = .ok (.iconst (-1), 1) := by decide +kernel
theorem dX3_parentOf_27 : decode cX3_parentOf 27 = .ok (.ireturn, 1) := by decide +kernel
theorem dX3_depthOf_0 : decode cX3_depthOf 0 = .ok (.aload_n 0, 1) := by decide +kernel
theorem dX3_depthOf_1 : decode cX3_depthOf 1 = .ok (.iload_n 1, 1) := by decide +kernel
theorem dX3_depthOf_2 : decode cX3_depthOf 2 = .ok (.invokevirtual 247, 3) := by decide +kernel
theorem dX3_depthOf_5 : decode cX3_depthOf 5 = .ok (.getfield 88, 3) := by decide +kernel
theorem dX3_depthOf_8 : decode cX3_depthOf 8 = .ok (.iconst 2, 1) := by decide +kernel
theorem dX3_depthOf_9 : decode cX3_depthOf 9 = .ok (.if_icmp .ne 14, 3) := by decide +kernel
theorem dX3_depthOf_12 : decode cX3_depthOf 12 = .ok (.aload_n 0, 1) := by decide +kernel
theorem dX3_depthOf_13 : decode cX3_depthOf 13 = .ok (.getfield 10, 3) := by decide +kernel
theorem dX3_depthOf_16 : decode cX3_depthOf 16 = .ok (.iload_n 1, 1) := by decide +kernel
theorem dX3_depthOf_17 : decode cX3_depthOf 17 = .ok (.invokevirtual 277, 3) := by decide +kernel
theorem dX3_depthOf_20 : decode cX3_depthOf 20 = .ok (.goto 4, 3) := by decide +kernel
theorem dX3_depthOf_23 : decode cX3_depthOf 23 = .ok (.iconst (-1), 1) := by decide +kernel
theorem dX3_depthOf_24 : decode cX3_depthOf 24 = .ok (.ireturn, 1) := by decide +kernel
theorem dX3_isOrphan_0 : decode cX3_isOrphan 0 = .ok (.aload_n 0, 1) := by decide +kernel
theorem dX3_isOrphan_1 : decode cX3_isOrphan 1 = .ok (.iload_n 1, 1) := by decide +kernel
theorem dX3_isOrphan_2 : decode cX3_isOrphan 2 = .ok (.invokevirtual 247, 3) := by decide +kernel
theorem dX3_isOrphan_5 : decode cX3_isOrphan 5 = .ok (.invokevirtual 177, 3) := by decide +kernel
theorem dX3_isOrphan_8 : decode cX3_isOrphan 8 = .ok (.ireturn, 1) := by decide +kernel
theorem dX3_blocksUnder_0 : decode cX3_blocksUnder 0 = .ok (.aload_n 0, 1) := by decide +kernel
theorem dX3_blocksUnder_1 : decode cX3_blocksUnder 1 = .ok (.invokevirtual 81, 3) := by decide +kernel
theorem dX3_blocksUnder_4 : decode cX3_blocksUnder 4 = .ok (.aload_n 0, 1) := by decide +kernel
theorem dX3_blocksUnder_5 : decode cX3_blocksUnder 5 = .ok (.iload_n 1, 1) := by decide +kernel
theorem dX3_blocksUnder_6 : decode cX3_blocksUnder 6 = .ok (.invokevirtual 84, 3) := by decide +kernel
theorem dX3_blocksUnder_9 : decode cX3_blocksUnder 9 = .ok (.aload_n 0, 1) := by decide +kernel
theorem dX3_blocksUnder_10 : decode cX3_blocksUnder 10 = .ok (.getfield 10, 3) := by decide +kernel
theorem dX3_blocksUnder_13 : decode cX3_blocksUnder 13 = .ok (.iload_n 1, 1) := by decide +kernel
theorem dX3_blocksUnder_14 : decode cX3_blocksUnder 14 = .ok (.invokevirtual 280, 3) := by decide +kernel
theorem dX3_blocksUnder_17 : decode cX3_blocksUnder 17 = .ok (.ireturn, 1) := by decide +kernel
theorem dX3_wouldFree_0 : decode cX3_wouldFree 0 = .ok (.aload_n 0, 1) := by decide +kernel
theorem dX3_wouldFree_1 : decode cX3_wouldFree 1 = .ok (.invokevirtual 81, 3) := by decide +kernel
theorem dX3_wouldFree_4 : decode cX3_wouldFree 4 = .ok (.aload_n 0, 1) := by decide +kernel
theorem dX3_wouldFree_5 : decode cX3_wouldFree 5 = .ok (.iload_n 1, 1) := by decide +kernel
theorem dX3_wouldFree_6 : decode cX3_wouldFree 6 = .ok (.invokevirtual 84, 3) := by decide +kernel
theorem dX3_wouldFree_9 : decode cX3_wouldFree 9 = .ok (.aload_n 0, 1) := by decide +kernel
theorem dX3_wouldFree_10 : decode cX3_wouldFree 10 = .ok (.getfield 10, 3) := by decide +kernel
theorem dX3_wouldFree_13 : decode cX3_wouldFree 13 = .ok (.iload_n 1, 1) := by decide +kernel
theorem dX3_wouldFree_14 : decode cX3_wouldFree 14 = .ok (.invokevirtual 283, 3) := by decide +kernel
theorem dX3_wouldFree_17 : decode cX3_wouldFree 17 = .ok (.ireturn, 1) := by decide +kernel
theorem dX3_used_0 : decode cX3_used 0 = .ok (.aload_n 0, 1) := by decide +kernel
theorem dX3_used_1 : decode cX3_used 1 = .ok (.invokevirtual 81, 3) := by decide +kernel
theorem dX3_used_4 : decode cX3_used 4 = .ok (.aload_n 0, 1) := by decide +kernel
theorem dX3_used_5 : decode cX3_used 5 = .ok (.getfield 10, 3) := by decide +kernel
theorem dX3_used_8 : decode cX3_used 8 = .ok (.invokevirtual 286, 3) := by decide +kernel
theorem dX3_used_11 : decode cX3_used 11 = .ok (.ireturn, 1) := by decide +kernel
theorem dX3_usedBy_0 : decode cX3_usedBy 0 = .ok (.aload_n 0, 1) := by decide +kernel
theorem dX3_usedBy_1 : decode cX3_usedBy 1 = .ok (.invokevirtual 81, 3) := by decide +kernel
theorem dX3_usedBy_4 : decode cX3_usedBy 4 = .ok (.aload_n 0, 1) := by decide +kernel
theorem dX3_usedBy_5 : decode cX3_usedBy 5 = .ok (.iload_n 1, 1) := by decide +kernel
theorem dX3_usedBy_6 : decode cX3_usedBy 6 = .ok (.iconst 0, 1) := by decide +kernel
theorem dX3_usedBy_7 : decode cX3_usedBy 7 = .ok (.iconst 3, 1) := by decide +kernel
theorem dX3_usedBy_8 : decode cX3_usedBy 8 = .ok (.invokevirtual 54, 3) := by decide +kernel
theorem dX3_usedBy_11 : decode cX3_usedBy 11 = .ok (.aload_n 0, 1) := by decide +kernel
theorem dX3_usedBy_12 : decode cX3_usedBy 12 = .ok (.getfield 10, 3) := by decide +kernel
theorem dX3_usedBy_15 : decode cX3_usedBy 15 = .ok (.iload_n 1, 1) := by decide +kernel
theorem dX3_usedBy_16 : decode cX3_usedBy 16 = .ok (.invokevirtual 289, 3) := by decide +kernel
theorem dX3_usedBy_19 : decode cX3_usedBy 19 = .ok (.ireturn, 1) := by decide +kernel
theorem dX3_quotaOf_0 : decode cX3_quotaOf 0 = .ok (.aload_n 0, 1) := by decide +kernel
theorem dX3_quotaOf_1 : decode cX3_quotaOf 1 = .ok (.invokevirtual 81, 3) := by decide +kernel
theorem dX3_quotaOf_4 : decode cX3_quotaOf 4 = .ok (.aload_n 0, 1) := by decide +kernel
theorem dX3_quotaOf_5 : decode cX3_quotaOf 5 = .ok (.iload_n 1, 1) := by decide +kernel
theorem dX3_quotaOf_6 : decode cX3_quotaOf 6 = .ok (.iconst 0, 1) := by decide +kernel
theorem dX3_quotaOf_7 : decode cX3_quotaOf 7 = .ok (.iconst 3, 1) := by decide +kernel
theorem dX3_quotaOf_8 : decode cX3_quotaOf 8 = .ok (.invokevirtual 54, 3) := by decide +kernel
theorem dX3_quotaOf_11 : decode cX3_quotaOf 11 = .ok (.aload_n 0, 1) := by decide +kernel
theorem dX3_quotaOf_12 : decode cX3_quotaOf 12 = .ok (.getfield 10, 3) := by decide +kernel
theorem dX3_quotaOf_15 : decode cX3_quotaOf 15 = .ok (.iload_n 1, 1) := by decide +kernel
theorem dX3_quotaOf_16 : decode cX3_quotaOf 16 = .ok (.invokevirtual 165, 3) := by decide +kernel
theorem dX3_quotaOf_19 : decode cX3_quotaOf 19 = .ok (.ireturn, 1) := by decide +kernel
theorem dX3_greatestFile_0 : decode cX3_greatestFile 0 = .ok (.aload_n 0, 1) := by decide +kernel
theorem dX3_greatestFile_1 : decode cX3_greatestFile 1 = .ok (.invokevirtual 81, 3) := by decide +kernel
theorem dX3_greatestFile_4 : decode cX3_greatestFile 4 = .ok (.aload_n 0, 1) := by decide +kernel
theorem dX3_greatestFile_5 : decode cX3_greatestFile 5 = .ok (.getfield 10, 3) := by decide +kernel
theorem dX3_greatestFile_8 : decode cX3_greatestFile 8 = .ok (.invokevirtual 292, 3) := by decide +kernel
theorem dX3_greatestFile_11 : decode cX3_greatestFile 11 = .ok (.ireturn, 1) := by decide +kernel
theorem dX3_meanSize_0 : decode cX3_meanSize 0 = .ok (.aload_n 0, 1) := by decide +kernel
theorem dX3_meanSize_1 : decode cX3_meanSize 1 = .ok (.invokevirtual 81, 3) := by decide +kernel
theorem dX3_meanSize_4 : decode cX3_meanSize 4 = .ok (.iconst 0, 1) := by decide +kernel
theorem dX3_meanSize_5 : decode cX3_meanSize 5 = .ok (.istore_n 1, 1) := by decide +kernel
theorem dX3_meanSize_6 : decode cX3_meanSize 6 = .ok (.iconst 0, 1) := by decide +kernel
theorem dX3_meanSize_7 : decode cX3_meanSize 7 = .ok (.istore_n 2, 1) := by decide +kernel
theorem dX3_meanSize_8 : decode cX3_meanSize 8 = .ok (.iconst 0, 1) := by decide +kernel
theorem dX3_meanSize_9 : decode cX3_meanSize 9 = .ok (.istore_n 3, 1) := by decide +kernel
theorem dX3_meanSize_10 : decode cX3_meanSize 10 = .ok (.iload_n 3, 1) := by decide +kernel
theorem dX3_meanSize_11 : decode cX3_meanSize 11 = .ok (.bipush 32, 2) := by decide +kernel
theorem dX3_meanSize_13 : decode cX3_meanSize 13 = .ok (.if_icmp .ge 41, 3) := by decide +kernel
theorem dX3_meanSize_16 : decode cX3_meanSize 16 = .ok (.aload_n 0, 1) := by decide +kernel
theorem dX3_meanSize_17 : decode cX3_meanSize 17 = .ok (.getfield 10, 3) := by decide +kernel
theorem dX3_meanSize_20 : decode cX3_meanSize 20 = .ok (.iload_n 3, 1) := by decide +kernel
theorem dX3_meanSize_21 : decode cX3_meanSize 21 = .ok (.invokevirtual 68, 3) := by decide +kernel
theorem dX3_meanSize_24 : decode cX3_meanSize 24 = .ok (.getfield 88, 3) := by decide +kernel
theorem dX3_meanSize_27 : decode cX3_meanSize 27 = .ok (.iconst 1, 1) := by decide +kernel
theorem dX3_meanSize_28 : decode cX3_meanSize 28 = .ok (.if_icmp .ne 20, 3) := by decide +kernel
theorem dX3_meanSize_31 : decode cX3_meanSize 31 = .ok (.iinc 1 1, 3) := by decide +kernel
theorem dX3_meanSize_34 : decode cX3_meanSize 34 = .ok (.iload_n 2, 1) := by decide +kernel
theorem dX3_meanSize_35 : decode cX3_meanSize 35 = .ok (.aload_n 0, 1) := by decide +kernel
theorem dX3_meanSize_36 : decode cX3_meanSize 36 = .ok (.getfield 10, 3) := by decide +kernel
theorem dX3_meanSize_39 : decode cX3_meanSize 39 = .ok (.iload_n 3, 1) := by decide +kernel
theorem dX3_meanSize_40 : decode cX3_meanSize 40 = .ok (.invokevirtual 68, 3) := by decide +kernel
theorem dX3_meanSize_43 : decode cX3_meanSize 43 = .ok (.getfield 142, 3) := by decide +kernel
theorem dX3_meanSize_46 : decode cX3_meanSize 46 = .ok (.iadd, 1) := by decide +kernel
theorem dX3_meanSize_47 : decode cX3_meanSize 47 = .ok (.istore_n 2, 1) := by decide +kernel
theorem dX3_meanSize_48 : decode cX3_meanSize 48 = .ok (.iinc 3 1, 3) := by decide +kernel
theorem dX3_meanSize_51 : decode cX3_meanSize 51 = .ok (.goto (-41), 3) := by decide +kernel
theorem dX3_meanSize_54 : decode cX3_meanSize 54 = .ok (.iload_n 1, 1) := by decide +kernel
theorem dX3_meanSize_55 : decode cX3_meanSize 55 = .ok (.ifCond .ne 7, 3) := by decide +kernel
theorem dX3_meanSize_58 : decode cX3_meanSize 58 = .ok (.dconst 0, 1) := by decide +kernel
theorem dX3_meanSize_59 : decode cX3_meanSize 59 = .ok (.goto 8, 3) := by decide +kernel
theorem dX3_meanSize_62 : decode cX3_meanSize 62 = .ok (.iload_n 2, 1) := by decide +kernel
theorem dX3_meanSize_63 : decode cX3_meanSize 63 = .ok (.i2d, 1) := by decide +kernel
theorem dX3_meanSize_64 : decode cX3_meanSize 64 = .ok (.iload_n 1, 1) := by decide +kernel
theorem dX3_meanSize_65 : decode cX3_meanSize 65 = .ok (.i2d, 1) := by decide +kernel
theorem dX3_meanSize_66 : decode cX3_meanSize 66 = .ok (.ddiv, 1) := by decide +kernel
theorem dX3_meanSize_67 : decode cX3_meanSize 67 = .ok (.dreturn, 1) := by decide +kernel
theorem dX3_flaws_0 : decode cX3_flaws 0 = .ok (.aload_n 0, 1) := by decide +kernel
theorem dX3_flaws_1 : decode cX3_flaws 1 = .ok (.invokevirtual 81, 3) := by decide +kernel
theorem dX3_flaws_4 : decode cX3_flaws 4 = .ok (.iconst 0, 1) := by decide +kernel
theorem dX3_flaws_5 : decode cX3_flaws 5 = .ok (.ireturn, 1) := by decide +kernel
theorem dX3_digest_0 : decode cX3_digest 0 = .ok (.aload_n 0, 1) := by decide +kernel
theorem dX3_digest_1 : decode cX3_digest 1 = .ok (.invokevirtual 81, 3) := by decide +kernel
theorem dX3_digest_4 : decode cX3_digest 4 = .ok (.ldc2_w 295, 3) := by decide +kernel
theorem dX3_digest_7 : decode cX3_digest 7 = .ok (.lstore_n 1, 1) := by decide +kernel
theorem dX3_digest_8 : decode cX3_digest 8 = .ok (.lload_n 1, 1) := by decide +kernel
theorem dX3_digest_9 : decode cX3_digest 9 = .ok (.ldc2_w 297, 3) := by decide +kernel
theorem dX3_digest_12 : decode cX3_digest 12 = .ok (.lmul, 1) := by decide +kernel
theorem dX3_digest_13 : decode cX3_digest 13 = .ok (.aload_n 0, 1) := by decide +kernel
theorem dX3_digest_14 : decode cX3_digest 14 = .ok (.invokevirtual 299, 3) := by decide +kernel
theorem dX3_digest_17 : decode cX3_digest 17 = .ok (.i2l, 1) := by decide +kernel
theorem dX3_digest_18 : decode cX3_digest 18 = .ok (.ladd, 1) := by decide +kernel
theorem dX3_digest_19 : decode cX3_digest 19 = .ok (.lstore_n 1, 1) := by decide +kernel
theorem dX3_digest_20 : decode cX3_digest 20 = .ok (.lload_n 1, 1) := by decide +kernel
theorem dX3_digest_21 : decode cX3_digest 21 = .ok (.ldc2_w 297, 3) := by decide +kernel
theorem dX3_digest_24 : decode cX3_digest 24 = .ok (.lmul, 1) := by decide +kernel
theorem dX3_digest_25 : decode cX3_digest 25 = .ok (.aload_n 0, 1) := by decide +kernel
theorem dX3_digest_26 : decode cX3_digest 26 = .ok (.invokevirtual 302, 3) := by decide +kernel
theorem dX3_digest_29 : decode cX3_digest 29 = .ok (.i2l, 1) := by decide +kernel
theorem dX3_digest_30 : decode cX3_digest 30 = .ok (.ladd, 1) := by decide +kernel
theorem dX3_digest_31 : decode cX3_digest 31 = .ok (.lstore_n 1, 1) := by decide +kernel
theorem dX3_digest_32 : decode cX3_digest 32 = .ok (.lload_n 1, 1) := by decide +kernel
theorem dX3_digest_33 : decode cX3_digest 33 = .ok (.ldc2_w 297, 3) := by decide +kernel
theorem dX3_digest_36 : decode cX3_digest 36 = .ok (.lmul, 1) := by decide +kernel
theorem dX3_digest_37 : decode cX3_digest 37 = .ok (.aload_n 0, 1) := by decide +kernel
theorem dX3_digest_38 : decode cX3_digest 38 = .ok (.invokevirtual 305, 3) := by decide +kernel
theorem dX3_digest_41 : decode cX3_digest 41 = .ok (.i2l, 1) := by decide +kernel
theorem dX3_digest_42 : decode cX3_digest 42 = .ok (.ladd, 1) := by decide +kernel
theorem dX3_digest_43 : decode cX3_digest 43 = .ok (.lstore_n 1, 1) := by decide +kernel
theorem dX3_digest_44 : decode cX3_digest 44 = .ok (.lload_n 1, 1) := by decide +kernel
theorem dX3_digest_45 : decode cX3_digest 45 = .ok (.ldc2_w 297, 3) := by decide +kernel
theorem dX3_digest_48 : decode cX3_digest 48 = .ok (.lmul, 1) := by decide +kernel
theorem dX3_digest_49 : decode cX3_digest 49 = .ok (.aload_n 0, 1) := by decide +kernel
theorem dX3_digest_50 : decode cX3_digest 50 = .ok (.invokevirtual 308, 3) := by decide +kernel
theorem dX3_digest_53 : decode cX3_digest 53 = .ok (.i2l, 1) := by decide +kernel
theorem dX3_digest_54 : decode cX3_digest 54 = .ok (.ladd, 1) := by decide +kernel
theorem dX3_digest_55 : decode cX3_digest 55 = .ok (.lstore_n 1, 1) := by decide +kernel
theorem dX3_digest_56 : decode cX3_digest 56 = .ok (.lload_n 1, 1) := by decide +kernel
theorem dX3_digest_57 : decode cX3_digest 57 = .ok (.ldc2_w 297, 3) := by decide +kernel
theorem dX3_digest_60 : decode cX3_digest 60 = .ok (.lmul, 1) := by decide +kernel
theorem dX3_digest_61 : decode cX3_digest 61 = .ok (.aload_n 0, 1) := by decide +kernel
theorem dX3_digest_62 : decode cX3_digest 62 = .ok (.invokevirtual 311, 3) := by decide +kernel
theorem dX3_digest_65 : decode cX3_digest 65 = .ok (.i2l, 1) := by decide +kernel
theorem dX3_digest_66 : decode cX3_digest 66 = .ok (.ladd, 1) := by decide +kernel
theorem dX3_digest_67 : decode cX3_digest 67 = .ok (.lstore_n 1, 1) := by decide +kernel
theorem dX3_digest_68 : decode cX3_digest 68 = .ok (.lload_n 1, 1) := by decide +kernel
theorem dX3_digest_69 : decode cX3_digest 69 = .ok (.ldc2_w 297, 3) := by decide +kernel
theorem dX3_digest_72 : decode cX3_digest 72 = .ok (.lmul, 1) := by decide +kernel
theorem dX3_digest_73 : decode cX3_digest 73 = .ok (.aload_n 0, 1) := by decide +kernel
theorem dX3_digest_74 : decode cX3_digest 74 = .ok (.invokevirtual 314, 3) := by decide +kernel
theorem dX3_digest_77 : decode cX3_digest 77 = .ok (.i2l, 1) := by decide +kernel
theorem dX3_digest_78 : decode cX3_digest 78 = .ok (.ladd, 1) := by decide +kernel
theorem dX3_digest_79 : decode cX3_digest 79 = .ok (.lstore_n 1, 1) := by decide +kernel
theorem dX3_digest_80 : decode cX3_digest 80 = .ok (.iconst 0, 1) := by decide +kernel
theorem dX3_digest_81 : decode cX3_digest 81 = .ok (.istore_n 3, 1) := by decide +kernel
theorem dX3_digest_82 : decode cX3_digest 82 = .ok (.iload_n 3, 1) := by decide +kernel
theorem dX3_digest_83 : decode cX3_digest 83 = .ok (.iconst 4, 1) := by decide +kernel
theorem dX3_digest_84 : decode cX3_digest 84 = .ok (.if_icmp .ge 35, 3) := by decide +kernel
theorem dX3_digest_87 : decode cX3_digest 87 = .ok (.lload_n 1, 1) := by decide +kernel
theorem dX3_digest_88 : decode cX3_digest 88 = .ok (.ldc2_w 297, 3) := by decide +kernel
theorem dX3_digest_91 : decode cX3_digest 91 = .ok (.lmul, 1) := by decide +kernel
theorem dX3_digest_92 : decode cX3_digest 92 = .ok (.aload_n 0, 1) := by decide +kernel
theorem dX3_digest_93 : decode cX3_digest 93 = .ok (.iload_n 3, 1) := by decide +kernel
theorem dX3_digest_94 : decode cX3_digest 94 = .ok (.invokevirtual 317, 3) := by decide +kernel
theorem dX3_digest_97 : decode cX3_digest 97 = .ok (.i2l, 1) := by decide +kernel
theorem dX3_digest_98 : decode cX3_digest 98 = .ok (.ladd, 1) := by decide +kernel
theorem dX3_digest_99 : decode cX3_digest 99 = .ok (.lstore_n 1, 1) := by decide +kernel
theorem dX3_digest_100 : decode cX3_digest 100 = .ok (.lload_n 1, 1) := by decide +kernel
theorem dX3_digest_101 : decode cX3_digest 101 = .ok (.ldc2_w 297, 3) := by decide +kernel
theorem dX3_digest_104 : decode cX3_digest 104 = .ok (.lmul, 1) := by decide +kernel
theorem dX3_digest_105 : decode cX3_digest 105 = .ok (.aload_n 0, 1) := by decide +kernel
theorem dX3_digest_106 : decode cX3_digest 106 = .ok (.iload_n 3, 1) := by decide +kernel
theorem dX3_digest_107 : decode cX3_digest 107 = .ok (.invokevirtual 320, 3) := by decide +kernel
theorem dX3_digest_110 : decode cX3_digest 110 = .ok (.i2l, 1) := by decide +kernel
theorem dX3_digest_111 : decode cX3_digest 111 = .ok (.ladd, 1) := by decide +kernel
theorem dX3_digest_112 : decode cX3_digest 112 = .ok (.lstore_n 1, 1) := by decide +kernel
theorem dX3_digest_113 : decode cX3_digest 113 = .ok (.iinc 3 1, 3) := by decide +kernel
theorem dX3_digest_116 : decode cX3_digest 116 = .ok (.goto (-34), 3) := by decide +kernel
theorem dX3_digest_119 : decode cX3_digest 119 = .ok (.lload_n 1, 1) := by decide +kernel
theorem dX3_digest_120 : decode cX3_digest 120 = .ok (.ldc2_w 297, 3) := by decide +kernel
theorem dX3_digest_123 : decode cX3_digest 123 = .ok (.lmul, 1) := by decide +kernel
theorem dX3_digest_124 : decode cX3_digest 124 = .ok (.aload_n 0, 1) := by decide +kernel
theorem dX3_digest_125 : decode cX3_digest 125 = .ok (.invokevirtual 323, 3) := by decide +kernel
theorem dX3_digest_128 : decode cX3_digest 128 = .ok (.i2l, 1) := by decide +kernel
theorem dX3_digest_129 : decode cX3_digest 129 = .ok (.ladd, 1) := by decide +kernel
theorem dX3_digest_130 : decode cX3_digest 130 = .ok (.lstore_n 1, 1) := by decide +kernel
theorem dX3_digest_131 : decode cX3_digest 131 = .ok (.iconst 0, 1) := by decide +kernel
theorem dX3_digest_132 : decode cX3_digest 132 = .ok (.istore_n 3, 1) := by decide +kernel
theorem dX3_digest_133 : decode cX3_digest 133 = .ok (.iload_n 3, 1) := by decide +kernel
theorem dX3_digest_134 : decode cX3_digest 134 = .ok (.bipush 32, 2) := by decide +kernel
theorem dX3_digest_136 : decode cX3_digest 136 = .ok (.if_icmp .ge 35, 3) := by decide +kernel
theorem dX3_digest_139 : decode cX3_digest 139 = .ok (.aload_n 0, 1) := by decide +kernel
theorem dX3_digest_140 : decode cX3_digest 140 = .ok (.getfield 10, 3) := by decide +kernel
theorem dX3_digest_143 : decode cX3_digest 143 = .ok (.iload_n 3, 1) := by decide +kernel
theorem dX3_digest_144 : decode cX3_digest 144 = .ok (.invokevirtual 68, 3) := by decide +kernel
theorem dX3_digest_147 : decode cX3_digest 147 = .ok (.getfield 88, 3) := by decide +kernel
theorem dX3_digest_150 : decode cX3_digest 150 = .ok (.ifCond .eq 15, 3) := by decide +kernel
theorem dX3_digest_153 : decode cX3_digest 153 = .ok (.aload_n 0, 1) := by decide +kernel
theorem dX3_digest_154 : decode cX3_digest 154 = .ok (.aload_n 0, 1) := by decide +kernel
theorem dX3_digest_155 : decode cX3_digest 155 = .ok (.lload_n 1, 1) := by decide +kernel
theorem dX3_digest_156 : decode cX3_digest 156 = .ok (.iload_n 3, 1) := by decide +kernel
theorem dX3_digest_157 : decode cX3_digest 157 = .ok (.invokevirtual 326, 3) := by decide +kernel
theorem dX3_digest_160 : decode cX3_digest 160 = .ok (.iload_n 3, 1) := by decide +kernel
theorem dX3_digest_161 : decode cX3_digest 161 = .ok (.invokevirtual 330, 3) := by decide +kernel
theorem dX3_digest_164 : decode cX3_digest 164 = .ok (.lstore_n 1, 1) := by decide +kernel
theorem dX3_digest_165 : decode cX3_digest 165 = .ok (.iinc 3 1, 3) := by decide +kernel
theorem dX3_digest_168 : decode cX3_digest 168 = .ok (.goto (-35), 3) := by decide +kernel
theorem dX3_digest_171 : decode cX3_digest 171 = .ok (.iconst 0, 1) := by decide +kernel
theorem dX3_digest_172 : decode cX3_digest 172 = .ok (.istore_n 3, 1) := by decide +kernel
theorem dX3_digest_173 : decode cX3_digest 173 = .ok (.iload_n 3, 1) := by decide +kernel
theorem dX3_digest_174 : decode cX3_digest 174 = .ok (.aload_n 0, 1) := by decide +kernel
theorem dX3_digest_175 : decode cX3_digest 175 = .ok (.getfield 24, 3) := by decide +kernel
theorem dX3_digest_178 : decode cX3_digest 178 = .ok (.arraylength, 1) := by decide +kernel
theorem dX3_digest_179 : decode cX3_digest 179 = .ok (.if_icmp .ge 28, 3) := by decide +kernel
theorem dX3_digest_182 : decode cX3_digest 182 = .ok (.aload_n 0, 1) := by decide +kernel
theorem dX3_digest_183 : decode cX3_digest 183 = .ok (.getfield 24, 3) := by decide +kernel
theorem dX3_digest_186 : decode cX3_digest 186 = .ok (.iload_n 3, 1) := by decide +kernel
theorem dX3_digest_187 : decode cX3_digest 187 = .ok (.aaload, 1) := by decide +kernel
theorem dX3_digest_188 : decode cX3_digest 188 = .ok (.getfield 168, 3) := by decide +kernel
theorem dX3_digest_191 : decode cX3_digest 191 = .ok (.ifCond .eq 10, 3) := by decide +kernel
theorem dX3_digest_194 : decode cX3_digest 194 = .ok (.aload_n 0, 1) := by decide +kernel
theorem dX3_digest_195 : decode cX3_digest 195 = .ok (.lload_n 1, 1) := by decide +kernel
theorem dX3_digest_196 : decode cX3_digest 196 = .ok (.iload_n 3, 1) := by decide +kernel
theorem dX3_digest_197 : decode cX3_digest 197 = .ok (.invokevirtual 333, 3) := by decide +kernel
theorem dX3_digest_200 : decode cX3_digest 200 = .ok (.lstore_n 1, 1) := by decide +kernel
theorem dX3_digest_201 : decode cX3_digest 201 = .ok (.iinc 3 1, 3) := by decide +kernel
theorem dX3_digest_204 : decode cX3_digest 204 = .ok (.goto (-31), 3) := by decide +kernel
theorem dX3_digest_207 : decode cX3_digest 207 = .ok (.lload_n 1, 1) := by decide +kernel
theorem dX3_digest_208 : decode cX3_digest 208 = .ok (.lreturn, 1) := by decide +kernel
theorem dX3_digestNode_0 : decode cX3_digestNode 0 = .ok (.lload_n 1, 1) := by decide +kernel
theorem dX3_digestNode_1 : decode cX3_digestNode 1 = .ok (.ldc2_w 297, 3) := by decide +kernel
theorem dX3_digestNode_4 : decode cX3_digestNode 4 = .ok (.lmul, 1) := by decide +kernel
theorem dX3_digestNode_5 : decode cX3_digestNode 5 = .ok (.iload_n 3, 1) := by decide +kernel
theorem dX3_digestNode_6 : decode cX3_digestNode 6 = .ok (.i2l, 1) := by decide +kernel
theorem dX3_digestNode_7 : decode cX3_digestNode 7 = .ok (.ladd, 1) := by decide +kernel
theorem dX3_digestNode_8 : decode cX3_digestNode 8 = .ok (.lstore 4, 2) := by decide +kernel
theorem dX3_digestNode_10 : decode cX3_digestNode 10 = .ok (.lload 4, 2) := by decide +kernel
theorem dX3_digestNode_12 : decode cX3_digestNode 12 = .ok (.ldc2_w 297, 3) := by decide +kernel
theorem dX3_digestNode_15 : decode cX3_digestNode 15 = .ok (.lmul, 1) := by decide +kernel
theorem dX3_digestNode_16 : decode cX3_digestNode 16 = .ok (.aload_n 0, 1) := by decide +kernel
theorem dX3_digestNode_17 : decode cX3_digestNode 17 = .ok (.iload_n 3, 1) := by decide +kernel
theorem dX3_digestNode_18 : decode cX3_digestNode 18 = .ok (.invokevirtual 336, 3) := by decide +kernel
theorem dX3_digestNode_21 : decode cX3_digestNode 21 = .ok (.i2l, 1) := by decide +kernel
theorem dX3_digestNode_22 : decode cX3_digestNode 22 = .ok (.ladd, 1) := by decide +kernel
theorem dX3_digestNode_23 : decode cX3_digestNode 23 = .ok (.lstore 4, 2) := by decide +kernel
theorem dX3_digestNode_25 : decode cX3_digestNode 25 = .ok (.lload 4, 2) := by decide +kernel
theorem dX3_digestNode_27 : decode cX3_digestNode 27 = .ok (.ldc2_w 297, 3) := by decide +kernel
theorem dX3_digestNode_30 : decode cX3_digestNode 30 = .ok (.lmul, 1) := by decide +kernel
theorem dX3_digestNode_31 : decode cX3_digestNode 31 = .ok (.aload_n 0, 1) := by decide +kernel
theorem dX3_digestNode_32 : decode cX3_digestNode 32 = .ok (.iload_n 3, 1) := by decide +kernel
theorem dX3_digestNode_33 : decode cX3_digestNode 33 = .ok (.invokevirtual 339, 3) := by decide +kernel
theorem dX3_digestNode_36 : decode cX3_digestNode 36 = .ok (.i2l, 1) := by decide +kernel
theorem dX3_digestNode_37 : decode cX3_digestNode 37 = .ok (.ladd, 1) := by decide +kernel
theorem dX3_digestNode_38 : decode cX3_digestNode 38 = .ok (.lstore 4, 2) := by decide +kernel
theorem dX3_digestNode_40 : decode cX3_digestNode 40 = .ok (.lload 4, 2) := by decide +kernel
theorem dX3_digestNode_42 : decode cX3_digestNode 42 = .ok (.ldc2_w 297, 3) := by decide +kernel
theorem dX3_digestNode_45 : decode cX3_digestNode 45 = .ok (.lmul, 1) := by decide +kernel
theorem dX3_digestNode_46 : decode cX3_digestNode 46 = .ok (.aload_n 0, 1) := by decide +kernel
theorem dX3_digestNode_47 : decode cX3_digestNode 47 = .ok (.iload_n 3, 1) := by decide +kernel
theorem dX3_digestNode_48 : decode cX3_digestNode 48 = .ok (.invokevirtual 342, 3) := by decide +kernel
theorem dX3_digestNode_51 : decode cX3_digestNode 51 = .ok (.i2l, 1) := by decide +kernel
theorem dX3_digestNode_52 : decode cX3_digestNode 52 = .ok (.ladd, 1) := by decide +kernel
theorem dX3_digestNode_53 : decode cX3_digestNode 53 = .ok (.lstore 4, 2) := by decide +kernel
theorem dX3_digestNode_55 : decode cX3_digestNode 55 = .ok (.lload 4, 2) := by decide +kernel
theorem dX3_digestNode_57 : decode cX3_digestNode 57 = .ok (.ldc2_w 297, 3) := by decide +kernel
theorem dX3_digestNode_60 : decode cX3_digestNode 60 = .ok (.lmul, 1) := by decide +kernel
theorem dX3_digestNode_61 : decode cX3_digestNode 61 = .ok (.aload_n 0, 1) := by decide +kernel
theorem dX3_digestNode_62 : decode cX3_digestNode 62 = .ok (.iload_n 3, 1) := by decide +kernel
theorem dX3_digestNode_63 : decode cX3_digestNode 63 = .ok (.invokevirtual 345, 3) := by decide +kernel
theorem dX3_digestNode_66 : decode cX3_digestNode 66 = .ok (.i2l, 1) := by decide +kernel
theorem dX3_digestNode_67 : decode cX3_digestNode 67 = .ok (.ladd, 1) := by decide +kernel
theorem dX3_digestNode_68 : decode cX3_digestNode 68 = .ok (.lstore 4, 2) := by decide +kernel
theorem dX3_digestNode_70 : decode cX3_digestNode 70 = .ok (.lload 4, 2) := by decide +kernel
theorem dX3_digestNode_72 : decode cX3_digestNode 72 = .ok (.ldc2_w 297, 3) := by decide +kernel
theorem dX3_digestNode_75 : decode cX3_digestNode 75 = .ok (.lmul, 1) := by decide +kernel
theorem dX3_digestNode_76 : decode cX3_digestNode 76 = .ok (.aload_n 0, 1) := by decide +kernel
theorem dX3_digestNode_77 : decode cX3_digestNode 77 = .ok (.iload_n 3, 1) := by decide +kernel
theorem dX3_digestNode_78 : decode cX3_digestNode 78 = .ok (.invokevirtual 348, 3) := by decide +kernel
theorem dX3_digestNode_81 : decode cX3_digestNode 81 = .ok (.i2l, 1) := by decide +kernel
theorem dX3_digestNode_82 : decode cX3_digestNode 82 = .ok (.ladd, 1) := by decide +kernel
theorem dX3_digestNode_83 : decode cX3_digestNode 83 = .ok (.lstore 4, 2) := by decide +kernel
theorem dX3_digestNode_85 : decode cX3_digestNode 85 = .ok (.lload 4, 2) := by decide +kernel
theorem dX3_digestNode_87 : decode cX3_digestNode 87 = .ok (.ldc2_w 297, 3) := by decide +kernel
theorem dX3_digestNode_90 : decode cX3_digestNode 90 = .ok (.lmul, 1) := by decide +kernel
theorem dX3_digestNode_91 : decode cX3_digestNode 91 = .ok (.aload_n 0, 1) := by decide +kernel
theorem dX3_digestNode_92 : decode cX3_digestNode 92 = .ok (.iload_n 3, 1) := by decide +kernel
theorem dX3_digestNode_93 : decode cX3_digestNode 93 = .ok (.invokevirtual 351, 3) := by decide +kernel
theorem dX3_digestNode_96 : decode cX3_digestNode 96 = .ok (.i2l, 1) := by decide +kernel
theorem dX3_digestNode_97 : decode cX3_digestNode 97 = .ok (.ladd, 1) := by decide +kernel
theorem dX3_digestNode_98 : decode cX3_digestNode 98 = .ok (.lstore 4, 2) := by decide +kernel
theorem dX3_digestNode_100 : decode cX3_digestNode 100 = .ok (.lload 4, 2) := by decide +kernel
theorem dX3_digestNode_102 : decode cX3_digestNode 102 = .ok (.ldc2_w 297, 3) := by decide +kernel
theorem dX3_digestNode_105 : decode cX3_digestNode 105 = .ok (.lmul, 1) := by decide +kernel
theorem dX3_digestNode_106 : decode cX3_digestNode 106 = .ok (.aload_n 0, 1) := by decide +kernel
theorem dX3_digestNode_107 : decode cX3_digestNode 107 = .ok (.iload_n 3, 1) := by decide +kernel
theorem dX3_digestNode_108 : decode cX3_digestNode 108 = .ok (.invokevirtual 354, 3) := by decide +kernel
theorem dX3_digestNode_111 : decode cX3_digestNode 111 = .ok (.i2l, 1) := by decide +kernel
theorem dX3_digestNode_112 : decode cX3_digestNode 112 = .ok (.ladd, 1) := by decide +kernel
theorem dX3_digestNode_113 : decode cX3_digestNode 113 = .ok (.lstore 4, 2) := by decide +kernel
theorem dX3_digestNode_115 : decode cX3_digestNode 115 = .ok (.lload 4, 2) := by decide +kernel
theorem dX3_digestNode_117 : decode cX3_digestNode 117 = .ok (.ldc2_w 297, 3) := by decide +kernel
theorem dX3_digestNode_120 : decode cX3_digestNode 120 = .ok (.lmul, 1) := by decide +kernel
theorem dX3_digestNode_121 : decode cX3_digestNode 121 = .ok (.aload_n 0, 1) := by decide +kernel
theorem dX3_digestNode_122 : decode cX3_digestNode 122 = .ok (.iload_n 3, 1) := by decide +kernel
theorem dX3_digestNode_123 : decode cX3_digestNode 123 = .ok (.invokevirtual 357, 3) := by decide +kernel
theorem dX3_digestNode_126 : decode cX3_digestNode 126 = .ok (.i2l, 1) := by decide +kernel
theorem dX3_digestNode_127 : decode cX3_digestNode 127 = .ok (.ladd, 1) := by decide +kernel
theorem dX3_digestNode_128 : decode cX3_digestNode 128 = .ok (.lstore 4, 2) := by decide +kernel
theorem dX3_digestNode_130 : decode cX3_digestNode 130 = .ok (.lload 4, 2) := by decide +kernel
theorem dX3_digestNode_132 : decode cX3_digestNode 132 = .ok (.ldc2_w 297, 3) := by decide +kernel
theorem dX3_digestNode_135 : decode cX3_digestNode 135 = .ok (.lmul, 1) := by decide +kernel
theorem dX3_digestNode_136 : decode cX3_digestNode 136 = .ok (.aload_n 0, 1) := by decide +kernel
theorem dX3_digestNode_137 : decode cX3_digestNode 137 = .ok (.iload_n 3, 1) := by decide +kernel
theorem dX3_digestNode_138 : decode cX3_digestNode 138 = .ok (.invokevirtual 360, 3) := by decide +kernel
theorem dX3_digestNode_141 : decode cX3_digestNode 141 = .ok (.i2l, 1) := by decide +kernel
theorem dX3_digestNode_142 : decode cX3_digestNode 142 = .ok (.ladd, 1) := by decide +kernel
theorem dX3_digestNode_143 : decode cX3_digestNode 143 = .ok (.lstore 4, 2) := by decide +kernel
theorem dX3_digestNode_145 : decode cX3_digestNode 145 = .ok (.lload 4, 2) := by decide +kernel
theorem dX3_digestNode_147 : decode cX3_digestNode 147 = .ok (.ldc2_w 297, 3) := by decide +kernel
theorem dX3_digestNode_150 : decode cX3_digestNode 150 = .ok (.lmul, 1) := by decide +kernel
theorem dX3_digestNode_151 : decode cX3_digestNode 151 = .ok (.aload_n 0, 1) := by decide +kernel
theorem dX3_digestNode_152 : decode cX3_digestNode 152 = .ok (.iload_n 3, 1) := by decide +kernel
theorem dX3_digestNode_153 : decode cX3_digestNode 153 = .ok (.invokevirtual 363, 3) := by decide +kernel
theorem dX3_digestNode_156 : decode cX3_digestNode 156 = .ok (.i2l, 1) := by decide +kernel
theorem dX3_digestNode_157 : decode cX3_digestNode 157 = .ok (.ladd, 1) := by decide +kernel
theorem dX3_digestNode_158 : decode cX3_digestNode 158 = .ok (.lreturn, 1) := by decide +kernel
theorem dX3_digestContent_0 : decode cX3_digestContent 0 = .ok (.aload_n 0, 1) := by decide +kernel
theorem dX3_digestContent_1 : decode cX3_digestContent 1 = .ok (.getfield 10, 3) := by decide +kernel
theorem dX3_digestContent_4 : decode cX3_digestContent 4 = .ok (.iload_n 3, 1) := by decide +kernel
theorem dX3_digestContent_5 : decode cX3_digestContent 5 = .ok (.invokevirtual 68, 3) := by decide +kernel
theorem dX3_digestContent_8 : decode cX3_digestContent 8 = .ok (.astore 4, 2) := by decide +kernel
theorem dX3_digestContent_10 : decode cX3_digestContent 10 = .ok (.lload_n 1, 1) := by decide +kernel
theorem dX3_digestContent_11 : decode cX3_digestContent 11 = .ok (.lstore 5, 2) := by decide +kernel
theorem dX3_digestContent_13 : decode cX3_digestContent 13 = .ok (.iconst 0, 1) := by decide +kernel
theorem dX3_digestContent_14 : decode cX3_digestContent 14 = .ok (.istore 7, 2) := by decide +kernel
theorem dX3_digestContent_16 : decode cX3_digestContent 16 = .ok (.iload 7, 2) := by decide +kernel
theorem dX3_digestContent_18 : decode cX3_digestContent 18 = .ok (.aload 4, 2) := by decide +kernel
theorem dX3_digestContent_20 : decode cX3_digestContent 20 = .ok (.getfield 142, 3) := by decide +kernel
theorem dX3_digestContent_23 : decode cX3_digestContent 23 = .ok (.if_icmp .ge 30, 3) := by decide +kernel
theorem dX3_digestContent_26 : decode cX3_digestContent 26 = .ok (.lload 5, 2) := by decide +kernel
theorem dX3_digestContent_28 : decode cX3_digestContent 28 = .ok (.ldc2_w 297, 3) := by decide +kernel
theorem dX3_digestContent_31 : decode cX3_digestContent 31 = .ok (.lmul, 1) := by decide +kernel
theorem dX3_digestContent_32 : decode cX3_digestContent 32 = .ok (.aload_n 0, 1) := by decide +kernel
theorem dX3_digestContent_33 : decode cX3_digestContent 33 = .ok (.getfield 10, 3) := by decide +kernel
theorem dX3_digestContent_36 : decode cX3_digestContent 36 = .ok (.aload 4, 2) := by decide +kernel
theorem dX3_digestContent_38 : decode cX3_digestContent 38 = .ok (.iload 7, 2) := by decide +kernel
theorem dX3_digestContent_40 : decode cX3_digestContent 40 = .ok (.invokevirtual 193, 3) := by decide +kernel
theorem dX3_digestContent_43 : decode cX3_digestContent 43 = .ok (.i2l, 1) := by decide +kernel
theorem dX3_digestContent_44 : decode cX3_digestContent 44 = .ok (.ladd, 1) := by decide +kernel
theorem dX3_digestContent_45 : decode cX3_digestContent 45 = .ok (.lstore 5, 2) := by decide +kernel
theorem dX3_digestContent_47 : decode cX3_digestContent 47 = .ok (.iinc 7 1, 3) := by decide +kernel
theorem dX3_digestContent_50 : decode cX3_digestContent 50 = .ok (.goto (-34), 3) := by decide +kernel
theorem dX3_digestContent_53 : decode cX3_digestContent 53 = .ok (.iconst 0, 1) := by decide +kernel
theorem dX3_digestContent_54 : decode cX3_digestContent 54 = .ok (.istore 7, 2) := by decide +kernel
theorem dX3_digestContent_56 : decode cX3_digestContent 56 = .ok (.iload 7, 2) := by decide +kernel
theorem dX3_digestContent_58 : decode cX3_digestContent 58 = .ok (.aload 4, 2) := by decide +kernel
theorem dX3_digestContent_60 : decode cX3_digestContent 60 = .ok (.getfield 101, 3) := by decide +kernel
theorem dX3_digestContent_63 : decode cX3_digestContent 63 = .ok (.if_icmp .ge 67, 3) := by decide +kernel
theorem dX3_digestContent_66 : decode cX3_digestContent 66 = .ok (.aload 4, 2) := by decide +kernel
theorem dX3_digestContent_68 : decode cX3_digestContent 68 = .ok (.iload 7, 2) := by decide +kernel
theorem dX3_digestContent_70 : decode cX3_digestContent 70 = .ok (.invokevirtual 271, 3) := by decide +kernel
theorem dX3_digestContent_73 : decode cX3_digestContent 73 = .ok (.istore 8, 2) := by decide +kernel
theorem dX3_digestContent_75 : decode cX3_digestContent 75 = .ok (.lload 5, 2) := by decide +kernel
theorem dX3_digestContent_77 : decode cX3_digestContent 77 = .ok (.ldc2_w 297, 3) := by decide +kernel
theorem dX3_digestContent_80 : decode cX3_digestContent 80 = .ok (.lmul, 1) := by decide +kernel
theorem dX3_digestContent_81 : decode cX3_digestContent 81 = .ok (.iload 8, 2) := by decide +kernel
theorem dX3_digestContent_83 : decode cX3_digestContent 83 = .ok (.i2l, 1) := by decide +kernel
theorem dX3_digestContent_84 : decode cX3_digestContent 84 = .ok (.ladd, 1) := by decide +kernel
theorem dX3_digestContent_85 : decode cX3_digestContent 85 = .ok (.lstore 5, 2) := by decide +kernel
theorem dX3_digestContent_87 : decode cX3_digestContent 87 = .ok (.lload 5, 2) := by decide +kernel
theorem dX3_digestContent_89 : decode cX3_digestContent 89 = .ok (.ldc2_w 297, 3) := by decide +kernel
theorem dX3_digestContent_92 : decode cX3_digestContent 92 = .ok (.lmul, 1) := by decide +kernel
theorem dX3_digestContent_93 : decode cX3_digestContent 93 = .ok (.aload 4, 2) := by decide +kernel
theorem dX3_digestContent_95 : decode cX3_digestContent 95 = .ok (.iload 8, 2) := by decide +kernel
theorem dX3_digestContent_97 : decode cX3_digestContent 97 = .ok (.invokevirtual 98, 3) := by decide +kernel
theorem dX3_digestContent_100 : decode cX3_digestContent 100 = .ok (.i2l, 1) := by decide +kernel
theorem dX3_digestContent_101 : decode cX3_digestContent 101 = .ok (.ladd, 1) := by decide +kernel
theorem dX3_digestContent_102 : decode cX3_digestContent 102 = .ok (.lstore 5, 2) := by decide +kernel
theorem dX3_digestContent_104 : decode cX3_digestContent 104 = .ok (.lload 5, 2) := by decide +kernel
theorem dX3_digestContent_106 : decode cX3_digestContent 106 = .ok (.ldc2_w 297, 3) := by decide +kernel
theorem dX3_digestContent_109 : decode cX3_digestContent 109 = .ok (.lmul, 1) := by decide +kernel
theorem dX3_digestContent_110 : decode cX3_digestContent 110 = .ok (.aload_n 0, 1) := by decide +kernel
theorem dX3_digestContent_111 : decode cX3_digestContent 111 = .ok (.getfield 10, 3) := by decide +kernel
theorem dX3_digestContent_114 : decode cX3_digestContent 114 = .ok (.iload_n 3, 1) := by decide +kernel
theorem dX3_digestContent_115 : decode cX3_digestContent 115 = .ok (.iload 8, 2) := by decide +kernel
theorem dX3_digestContent_117 : decode cX3_digestContent 117 = .ok (.invokevirtual 268, 3) := by decide +kernel
theorem dX3_digestContent_120 : decode cX3_digestContent 120 = .ok (.i2l, 1) := by decide +kernel
theorem dX3_digestContent_121 : decode cX3_digestContent 121 = .ok (.ladd, 1) := by decide +kernel
theorem dX3_digestContent_122 : decode cX3_digestContent 122 = .ok (.lstore 5, 2) := by decide +kernel
theorem dX3_digestContent_124 : decode cX3_digestContent 124 = .ok (.iinc 7 1, 3) := by decide +kernel
theorem dX3_digestContent_127 : decode cX3_digestContent 127 = .ok (.goto (-71), 3) := by decide +kernel
theorem dX3_digestContent_130 : decode cX3_digestContent 130 = .ok (.lload 5, 2) := by decide +kernel
theorem dX3_digestContent_132 : decode cX3_digestContent 132 = .ok (.lreturn, 1) := by decide +kernel
theorem dX3_digestHandle_0 : decode cX3_digestHandle 0 = .ok (.lload_n 1, 1) := by decide +kernel
theorem dX3_digestHandle_1 : decode cX3_digestHandle 1 = .ok (.ldc2_w 297, 3) := by decide +kernel
theorem dX3_digestHandle_4 : decode cX3_digestHandle 4 = .ok (.lmul, 1) := by decide +kernel
theorem dX3_digestHandle_5 : decode cX3_digestHandle 5 = .ok (.iload_n 3, 1) := by decide +kernel
theorem dX3_digestHandle_6 : decode cX3_digestHandle 6 = .ok (.i2l, 1) := by decide +kernel
theorem dX3_digestHandle_7 : decode cX3_digestHandle 7 = .ok (.ladd, 1) := by decide +kernel
theorem dX3_digestHandle_8 : decode cX3_digestHandle 8 = .ok (.lstore 4, 2) := by decide +kernel
theorem dX3_digestHandle_10 : decode cX3_digestHandle 10 = .ok (.lload 4, 2) := by decide +kernel
theorem dX3_digestHandle_12 : decode cX3_digestHandle 12 = .ok (.ldc2_w 297, 3) := by decide +kernel
theorem dX3_digestHandle_15 : decode cX3_digestHandle 15 = .ok (.lmul, 1) := by decide +kernel
theorem dX3_digestHandle_16 : decode cX3_digestHandle 16 = .ok (.aload_n 0, 1) := by decide +kernel
theorem dX3_digestHandle_17 : decode cX3_digestHandle 17 = .ok (.iload_n 3, 1) := by decide +kernel
theorem dX3_digestHandle_18 : decode cX3_digestHandle 18 = .ok (.invokevirtual 366, 3) := by decide +kernel
theorem dX3_digestHandle_21 : decode cX3_digestHandle 21 = .ok (.i2l, 1) := by decide +kernel
theorem dX3_digestHandle_22 : decode cX3_digestHandle 22 = .ok (.ladd, 1) := by decide +kernel
theorem dX3_digestHandle_23 : decode cX3_digestHandle 23 = .ok (.lstore 4, 2) := by decide +kernel
theorem dX3_digestHandle_25 : decode cX3_digestHandle 25 = .ok (.lload 4, 2) := by decide +kernel
theorem dX3_digestHandle_27 : decode cX3_digestHandle 27 = .ok (.ldc2_w 297, 3) := by decide +kernel
theorem dX3_digestHandle_30 : decode cX3_digestHandle 30 = .ok (.lmul, 1) := by decide +kernel
theorem dX3_digestHandle_31 : decode cX3_digestHandle 31 = .ok (.aload_n 0, 1) := by decide +kernel
theorem dX3_digestHandle_32 : decode cX3_digestHandle 32 = .ok (.iload_n 3, 1) := by decide +kernel
theorem dX3_digestHandle_33 : decode cX3_digestHandle 33 = .ok (.invokevirtual 369, 3) := by decide +kernel
theorem dX3_digestHandle_36 : decode cX3_digestHandle 36 = .ok (.i2l, 1) := by decide +kernel
theorem dX3_digestHandle_37 : decode cX3_digestHandle 37 = .ok (.ladd, 1) := by decide +kernel
theorem dX3_digestHandle_38 : decode cX3_digestHandle 38 = .ok (.lstore 4, 2) := by decide +kernel
theorem dX3_digestHandle_40 : decode cX3_digestHandle 40 = .ok (.lload 4, 2) := by decide +kernel
theorem dX3_digestHandle_42 : decode cX3_digestHandle 42 = .ok (.ldc2_w 297, 3) := by decide +kernel
theorem dX3_digestHandle_45 : decode cX3_digestHandle 45 = .ok (.lmul, 1) := by decide +kernel
theorem dX3_digestHandle_46 : decode cX3_digestHandle 46 = .ok (.aload_n 0, 1) := by decide +kernel
theorem dX3_digestHandle_47 : decode cX3_digestHandle 47 = .ok (.iload_n 3, 1) := by decide +kernel
theorem dX3_digestHandle_48 : decode cX3_digestHandle 48 = .ok (.invokevirtual 372, 3) := by decide +kernel
theorem dX3_digestHandle_51 : decode cX3_digestHandle 51 = .ok (.i2l, 1) := by decide +kernel
theorem dX3_digestHandle_52 : decode cX3_digestHandle 52 = .ok (.ladd, 1) := by decide +kernel
theorem dX3_digestHandle_53 : decode cX3_digestHandle 53 = .ok (.lreturn, 1) := by decide +kernel
theorem dX3_needPower_0 : decode cX3_needPower 0 = .ok (.aload_n 0, 1) := by decide +kernel
theorem dX3_needPower_1 : decode cX3_needPower 1 = .ok (.getfield 32, 3) := by decide +kernel
theorem dX3_needPower_4 : decode cX3_needPower 4 = .ok (.ifCond .eq 14, 3) := by decide +kernel
theorem dX3_needPower_7 : decode cX3_needPower 7 = .ok (.new 227, 3) := by decide +kernel
theorem dX3_needPower_10 : decode cX3_needPower 10 = .ok (.dup, 1) := by decide +kernel
theorem dX3_needPower_11 : decode cX3_needPower 11 = .ok (.ldc_w 375, 3) := by decide +kernel
theorem dX3_needPower_14 : decode cX3_needPower 14 = .ok (.invokespecial 231, 3) := by decide +kernel
theorem dX3_needPower_17 : decode cX3_needPower 17 = .ok (.athrow, 1) := by decide +kernel
theorem dX3_needPower_18 : decode cX3_needPower 18 = .ok (.return_, 1) := by decide +kernel
theorem dX3_needNode_0 : decode cX3_needNode 0 = .ok (.aload_n 0, 1) := by decide +kernel
theorem dX3_needNode_1 : decode cX3_needNode 1 = .ok (.getfield 10, 3) := by decide +kernel
theorem dX3_needNode_4 : decode cX3_needNode 4 = .ok (.iload_n 1, 1) := by decide +kernel
theorem dX3_needNode_5 : decode cX3_needNode 5 = .ok (.invokevirtual 68, 3) := by decide +kernel
theorem dX3_needNode_8 : decode cX3_needNode 8 = .ok (.getfield 88, 3) := by decide +kernel
theorem dX3_needNode_11 : decode cX3_needNode 11 = .ok (.ifCond .ne 14, 3) := by decide +kernel
theorem dX3_needNode_14 : decode cX3_needNode 14 = .ok (.new 377, 3) := by decide +kernel
theorem dX3_needNode_17 : decode cX3_needNode 17 = .ok (.dup, 1) := by decide +kernel
theorem dX3_needNode_18 : decode cX3_needNode 18 = .ok (.ldc_w 379, 3) := by decide +kernel
theorem dX3_needNode_21 : decode cX3_needNode 21 = .ok (.invokespecial 381, 3) := by decide +kernel
theorem dX3_needNode_24 : decode cX3_needNode 24 = .ok (.athrow, 1) := by decide +kernel
theorem dX3_needNode_25 : decode cX3_needNode 25 = .ok (.return_, 1) := by decide +kernel
theorem dX3_needLive_0 : decode cX3_needLive 0 = .ok (.aload_n 0, 1) := by decide +kernel
theorem dX3_needLive_1 : decode cX3_needLive 1 = .ok (.invokevirtual 81, 3) := by decide +kernel
theorem dX3_needLive_4 : decode cX3_needLive 4 = .ok (.aload_n 0, 1) := by decide +kernel
theorem dX3_needLive_5 : decode cX3_needLive 5 = .ok (.iload_n 1, 1) := by decide +kernel
theorem dX3_needLive_6 : decode cX3_needLive 6 = .ok (.invokevirtual 84, 3) := by decide +kernel
theorem dX3_needLive_9 : decode cX3_needLive 9 = .ok (.aload_n 0, 1) := by decide +kernel
theorem dX3_needLive_10 : decode cX3_needLive 10 = .ok (.getfield 10, 3) := by decide +kernel
theorem dX3_needLive_13 : decode cX3_needLive 13 = .ok (.iload_n 1, 1) := by decide +kernel
theorem dX3_needLive_14 : decode cX3_needLive 14 = .ok (.invokevirtual 68, 3) := by decide +kernel
theorem dX3_needLive_17 : decode cX3_needLive 17 = .ok (.areturn, 1) := by decide +kernel
theorem dX3_needOpen_0 : decode cX3_needOpen 0 = .ok (.iload_n 1, 1) := by decide +kernel
theorem dX3_needOpen_1 : decode cX3_needOpen 1 = .ok (.ifCond .lt 24, 3) := by decide +kernel
theorem dX3_needOpen_4 : decode cX3_needOpen 4 = .ok (.iload_n 1, 1) := by decide +kernel
theorem dX3_needOpen_5 : decode cX3_needOpen 5 = .ok (.aload_n 0, 1) := by decide +kernel
theorem dX3_needOpen_6 : decode cX3_needOpen 6 = .ok (.getfield 24, 3) := by decide +kernel
theorem dX3_needOpen_9 : decode cX3_needOpen 9 = .ok (.arraylength, 1) := by decide +kernel
theorem dX3_needOpen_10 : decode cX3_needOpen 10 = .ok (.if_icmp .ge 15, 3) := by decide +kernel
theorem dX3_needOpen_13 : decode cX3_needOpen 13 = .ok (.aload_n 0, 1) := by decide +kernel
theorem dX3_needOpen_14 : decode cX3_needOpen 14 = .ok (.getfield 24, 3) := by decide +kernel
theorem dX3_needOpen_17 : decode cX3_needOpen 17 = .ok (.iload_n 1, 1) := by decide +kernel
theorem dX3_needOpen_18 : decode cX3_needOpen 18 = .ok (.aaload, 1) := by decide +kernel
theorem dX3_needOpen_19 : decode cX3_needOpen 19 = .ok (.getfield 168, 3) := by decide +kernel
theorem dX3_needOpen_22 : decode cX3_needOpen 22 = .ok (.ifCond .ne 14, 3) := by decide +kernel
theorem dX3_needOpen_25 : decode cX3_needOpen 25 = .ok (.new 377, 3) := by decide +kernel
theorem dX3_needOpen_28 : decode cX3_needOpen 28 = .ok (.dup, 1) := by decide +kernel
theorem dX3_needOpen_29 : decode cX3_needOpen 29 = .ok (.ldc_w 382, 3) := by decide +kernel
theorem dX3_needOpen_32 : decode cX3_needOpen 32 = .ok (.invokespecial 381, 3) := by decide +kernel
theorem dX3_needOpen_35 : decode cX3_needOpen 35 = .ok (.athrow, 1) := by decide +kernel
theorem dX3_needOpen_36 : decode cX3_needOpen 36 = .ok (.aload_n 0, 1) := by decide +kernel
theorem dX3_needOpen_37 : decode cX3_needOpen 37 = .ok (.getfield 24, 3) := by decide +kernel
theorem dX3_needOpen_40 : decode cX3_needOpen 40 = .ok (.iload_n 1, 1) := by decide +kernel
theorem dX3_needOpen_41 : decode cX3_needOpen 41 = .ok (.aaload, 1) := by decide +kernel
theorem dX3_needOpen_42 : decode cX3_needOpen 42 = .ok (.areturn, 1) := by decide +kernel
theorem dX3_needRange_0 : decode cX3_needRange 0 = .ok (.iload_n 1, 1) := by decide +kernel
theorem dX3_needRange_1 : decode cX3_needRange 1 = .ok (.iload_n 2, 1) := by decide +kernel
theorem dX3_needRange_2 : decode cX3_needRange 2 = .ok (.if_icmp .lt 8, 3) := by decide +kernel
theorem dX3_needRange_5 : decode cX3_needRange 5 = .ok (.iload_n 1, 1) := by decide +kernel
theorem dX3_needRange_6 : decode cX3_needRange 6 = .ok (.iload_n 3, 1) := by decide +kernel
theorem dX3_needRange_7 : decode cX3_needRange 7 = .ok (.if_icmp .le 14, 3) := by decide +kernel
theorem dX3_needRange_10 : decode cX3_needRange 10 = .ok (.new 384, 3) := by decide +kernel
theorem dX3_needRange_13 : decode cX3_needRange 13 = .ok (.dup, 1) := by decide +kernel
theorem dX3_needRange_14 : decode cX3_needRange 14 = .ok (.ldc_w 386, 3) := by decide +kernel
theorem dX3_needRange_17 : decode cX3_needRange 17 = .ok (.invokespecial 388, 3) := by decide +kernel
theorem dX3_needRange_20 : decode cX3_needRange 20 = .ok (.athrow, 1) := by decide +kernel
theorem dX3_needRange_21 : decode cX3_needRange 21 = .ok (.return_, 1) := by decide +kernel
theorem dX3_needBytes_0 : decode cX3_needBytes 0 = .ok (.aload_n 0, 1) := by decide +kernel
theorem dX3_needBytes_1 : decode cX3_needBytes 1 = .ok (.iload_n 1, 1) := by decide +kernel
theorem dX3_needBytes_2 : decode cX3_needBytes 2 = .ok (.iconst 0, 1) := by decide +kernel
theorem dX3_needBytes_3 : decode cX3_needBytes 3 = .ok (.sipush 319, 3) := by decide +kernel
theorem dX3_needBytes_6 : decode cX3_needBytes 6 = .ok (.invokevirtual 54, 3) := by decide +kernel
theorem dX3_needBytes_9 : decode cX3_needBytes 9 = .ok (.aload_n 0, 1) := by decide +kernel
theorem dX3_needBytes_10 : decode cX3_needBytes 10 = .ok (.iload_n 2, 1) := by decide +kernel
theorem dX3_needBytes_11 : decode cX3_needBytes 11 = .ok (.iconst 1, 1) := by decide +kernel
theorem dX3_needBytes_12 : decode cX3_needBytes 12 = .ok (.sipush 320, 3) := by decide +kernel
theorem dX3_needBytes_15 : decode cX3_needBytes 15 = .ok (.iload_n 1, 1) := by decide +kernel
theorem dX3_needBytes_16 : decode cX3_needBytes 16 = .ok (.isub, 1) := by decide +kernel
theorem dX3_needBytes_17 : decode cX3_needBytes 17 = .ok (.invokevirtual 54, 3) := by decide +kernel
theorem dX3_needBytes_20 : decode cX3_needBytes 20 = .ok (.return_, 1) := by decide +kernel
theorem dX3_needEntry_0 : decode cX3_needEntry 0 = .ok (.aload_n 0, 1) := by decide +kernel
theorem dX3_needEntry_1 : decode cX3_needEntry 1 = .ok (.invokevirtual 81, 3) := by decide +kernel
theorem dX3_needEntry_4 : decode cX3_needEntry 4 = .ok (.aload_n 0, 1) := by decide +kernel
theorem dX3_needEntry_5 : decode cX3_needEntry 5 = .ok (.iload_n 1, 1) := by decide +kernel
theorem dX3_needEntry_6 : decode cX3_needEntry 6 = .ok (.invokevirtual 84, 3) := by decide +kernel
theorem dX3_needEntry_9 : decode cX3_needEntry 9 = .ok (.aload_n 0, 1) := by decide +kernel
theorem dX3_needEntry_10 : decode cX3_needEntry 10 = .ok (.iload_n 2, 1) := by decide +kernel
theorem dX3_needEntry_11 : decode cX3_needEntry 11 = .ok (.iconst 1, 1) := by decide +kernel
theorem dX3_needEntry_12 : decode cX3_needEntry 12 = .ok (.bipush 99, 2) := by decide +kernel
theorem dX3_needEntry_14 : decode cX3_needEntry 14 = .ok (.invokevirtual 54, 3) := by decide +kernel
theorem dX3_needEntry_17 : decode cX3_needEntry 17 = .ok (.return_, 1) := by decide +kernel
theorem dX3_needTwoEntries_0 : decode cX3_needTwoEntries 0 = .ok (.aload_n 0, 1) := by decide +kernel
theorem dX3_needTwoEntries_1 : decode cX3_needTwoEntries 1 = .ok (.invokevirtual 81, 3) := by decide +kernel
theorem dX3_needTwoEntries_4 : decode cX3_needTwoEntries 4 = .ok (.aload_n 0, 1) := by decide +kernel
theorem dX3_needTwoEntries_5 : decode cX3_needTwoEntries 5 = .ok (.iload_n 1, 1) := by decide +kernel
theorem dX3_needTwoEntries_6 : decode cX3_needTwoEntries 6 = .ok (.invokevirtual 84, 3) := by decide +kernel
theorem dX3_needTwoEntries_9 : decode cX3_needTwoEntries 9 = .ok (.aload_n 0, 1) := by decide +kernel
theorem dX3_needTwoEntries_10 : decode cX3_needTwoEntries 10 = .ok (.iload_n 3, 1) := by decide +kernel
theorem dX3_needTwoEntries_11 : decode cX3_needTwoEntries 11 = .ok (.invokevirtual 84, 3) := by decide +kernel
theorem dX3_needTwoEntries_14 : decode cX3_needTwoEntries 14 = .ok (.aload_n 0, 1) := by decide +kernel
theorem dX3_needTwoEntries_15 : decode cX3_needTwoEntries 15 = .ok (.iload_n 2, 1) := by decide +kernel
theorem dX3_needTwoEntries_16 : decode cX3_needTwoEntries 16 = .ok (.iconst 1, 1) := by decide +kernel
theorem dX3_needTwoEntries_17 : decode cX3_needTwoEntries 17 = .ok (.bipush 99, 2) := by decide +kernel
theorem dX3_needTwoEntries_19 : decode cX3_needTwoEntries 19 = .ok (.invokevirtual 54, 3) := by decide +kernel
theorem dX3_needTwoEntries_22 : decode cX3_needTwoEntries 22 = .ok (.aload_n 0, 1) := by decide +kernel
theorem dX3_needTwoEntries_23 : decode cX3_needTwoEntries 23 = .ok (.iload 4, 2) := by decide +kernel
theorem dX3_needTwoEntries_25 : decode cX3_needTwoEntries 25 = .ok (.iconst 1, 1) := by decide +kernel
theorem dX3_needTwoEntries_26 : decode cX3_needTwoEntries 26 = .ok (.bipush 99, 2) := by decide +kernel
theorem dX3_needTwoEntries_28 : decode cX3_needTwoEntries 28 = .ok (.invokevirtual 54, 3) := by decide +kernel
theorem dX3_needTwoEntries_31 : decode cX3_needTwoEntries 31 = .ok (.return_, 1) := by decide +kernel
theorem dX3_hindranceToMake_0 : decode cX3_hindranceToMake 0 = .ok (.aload_n 0, 1) := by decide +kernel
theorem dX3_hindranceToMake_1 : decode cX3_hindranceToMake 1 = .ok (.getfield 10, 3) := by decide +kernel
theorem dX3_hindranceToMake_4 : decode cX3_hindranceToMake 4 = .ok (.iload_n 1, 1) := by decide +kernel
theorem dX3_hindranceToMake_5 : decode cX3_hindranceToMake 5 = .ok (.invokevirtual 68, 3) := by decide +kernel
theorem dX3_hindranceToMake_8 : decode cX3_hindranceToMake 8 = .ok (.astore_n 3, 1) := by decide +kernel
theorem dX3_hindranceToMake_9 : decode cX3_hindranceToMake 9 = .ok (.aload_n 3, 1) := by decide +kernel
theorem dX3_hindranceToMake_10 : decode cX3_hindranceToMake 10 = .ok (.getfield 88, 3) := by decide +kernel
theorem dX3_hindranceToMake_13 : decode cX3_hindranceToMake 13 = .ok (.iconst 2, 1) := by decide +kernel
theorem dX3_hindranceToMake_14 : decode cX3_hindranceToMake 14 = .ok (.if_icmp .eq 6, 3) := by decide +kernel
theorem dX3_hindranceToMake_17 : decode cX3_hindranceToMake 17 = .ok (.bipush (-3), 2) := by decide +kernel
theorem dX3_hindranceToMake_19 : decode cX3_hindranceToMake 19 = .ok (.ireturn, 1) := by decide +kernel
theorem dX3_hindranceToMake_20 : decode cX3_hindranceToMake 20 = .ok (.aload_n 3, 1) := by decide +kernel
theorem dX3_hindranceToMake_21 : decode cX3_hindranceToMake 21 = .ok (.iload_n 2, 1) := by decide +kernel
theorem dX3_hindranceToMake_22 : decode cX3_hindranceToMake 22 = .ok (.invokevirtual 98, 3) := by decide +kernel
theorem dX3_hindranceToMake_25 : decode cX3_hindranceToMake 25 = .ok (.iconst (-1), 1) := by decide +kernel
theorem dX3_hindranceToMake_26 : decode cX3_hindranceToMake 26 = .ok (.if_icmp .eq 6, 3) := by decide +kernel
theorem dX3_hindranceToMake_29 : decode cX3_hindranceToMake 29 = .ok (.bipush (-2), 2) := by decide +kernel
theorem dX3_hindranceToMake_31 : decode cX3_hindranceToMake 31 = .ok (.ireturn, 1) := by decide +kernel
theorem dX3_hindranceToMake_32 : decode cX3_hindranceToMake 32 = .ok (.aload_n 3, 1) := by decide +kernel
theorem dX3_hindranceToMake_33 : decode cX3_hindranceToMake 33 = .ok (.getfield 101, 3) := by decide +kernel
theorem dX3_hindranceToMake_36 : decode cX3_hindranceToMake 36 = .ok (.bipush 12, 2) := by decide +kernel
theorem dX3_hindranceToMake_38 : decode cX3_hindranceToMake 38 = .ok (.if_icmp .ge 15, 3) := by decide +kernel
theorem dX3_hindranceToMake_41 : decode cX3_hindranceToMake 41 = .ok (.aload_n 0, 1) := by decide +kernel
theorem dX3_hindranceToMake_42 : decode cX3_hindranceToMake 42 = .ok (.getfield 10, 3) := by decide +kernel
theorem dX3_hindranceToMake_45 : decode cX3_hindranceToMake 45 = .ok (.invokevirtual 244, 3) := by decide +kernel
theorem dX3_hindranceToMake_48 : decode cX3_hindranceToMake 48 = .ok (.bipush 32, 2) := by decide +kernel
theorem dX3_hindranceToMake_50 : decode cX3_hindranceToMake 50 = .ok (.if_icmp .lt 8, 3) := by decide +kernel
theorem dX3_hindranceToMake_53 : decode cX3_hindranceToMake 53 = .ok (.bipush (-5), 2) := by decide +kernel
theorem dX3_hindranceToMake_55 : decode cX3_hindranceToMake 55 = .ok (.goto 4, 3) := by decide +kernel
theorem dX3_hindranceToMake_58 : decode cX3_hindranceToMake 58 = .ok (.iconst 0, 1) := by decide +kernel
theorem dX3_hindranceToMake_59 : decode cX3_hindranceToMake 59 = .ok (.ireturn, 1) := by decide +kernel
theorem dX3_hindranceToMove_0 : decode cX3_hindranceToMove 0 = .ok (.aload_n 0, 1) := by decide +kernel
theorem dX3_hindranceToMove_1 : decode cX3_hindranceToMove 1 = .ok (.getfield 10, 3) := by decide +kernel
theorem dX3_hindranceToMove_4 : decode cX3_hindranceToMove 4 = .ok (.iload_n 3, 1) := by decide +kernel
theorem dX3_hindranceToMove_5 : decode cX3_hindranceToMove 5 = .ok (.iload_n 2, 1) := by decide +kernel
theorem dX3_hindranceToMove_6 : decode cX3_hindranceToMove 6 = .ok (.invokevirtual 121, 3) := by decide +kernel
theorem dX3_hindranceToMove_9 : decode cX3_hindranceToMove 9 = .ok (.ifCond .eq 6, 3) := by decide +kernel
theorem dX3_hindranceToMove_12 : decode cX3_hindranceToMove 12 = .ok (.bipush (-6), 2) := by decide +kernel
theorem dX3_hindranceToMove_14 : decode cX3_hindranceToMove 14 = .ok (.ireturn, 1) := by decide +kernel
theorem dX3_hindranceToMove_15 : decode cX3_hindranceToMove 15 = .ok (.aload_n 0, 1) := by decide +kernel
theorem dX3_hindranceToMove_16 : decode cX3_hindranceToMove 16 = .ok (.getfield 10, 3) := by decide +kernel
theorem dX3_hindranceToMove_19 : decode cX3_hindranceToMove 19 = .ok (.iload_n 3, 1) := by decide +kernel
theorem dX3_hindranceToMove_20 : decode cX3_hindranceToMove 20 = .ok (.invokevirtual 68, 3) := by decide +kernel
theorem dX3_hindranceToMove_23 : decode cX3_hindranceToMove 23 = .ok (.astore 5, 2) := by decide +kernel
theorem dX3_hindranceToMove_25 : decode cX3_hindranceToMove 25 = .ok (.aload 5, 2) := by decide +kernel
theorem dX3_hindranceToMove_27 : decode cX3_hindranceToMove 27 = .ok (.iload 4, 2) := by decide +kernel
theorem dX3_hindranceToMove_29 : decode cX3_hindranceToMove 29 = .ok (.invokevirtual 98, 3) := by decide +kernel
theorem dX3_hindranceToMove_32 : decode cX3_hindranceToMove 32 = .ok (.istore 6, 2) := by decide +kernel
theorem dX3_hindranceToMove_34 : decode cX3_hindranceToMove 34 = .ok (.iload 6, 2) := by decide +kernel
theorem dX3_hindranceToMove_36 : decode cX3_hindranceToMove 36 = .ok (.iconst (-1), 1) := by decide +kernel
theorem dX3_hindranceToMove_37 : decode cX3_hindranceToMove 37 = .ok (.if_icmp .ne 25, 3) := by decide +kernel
theorem dX3_hindranceToMove_40 : decode cX3_hindranceToMove 40 = .ok (.iload_n 3, 1) := by decide +kernel
theorem dX3_hindranceToMove_41 : decode cX3_hindranceToMove 41 = .ok (.iload_n 1, 1) := by decide +kernel
theorem dX3_hindranceToMove_42 : decode cX3_hindranceToMove 42 = .ok (.if_icmp .eq 18, 3) := by decide +kernel
theorem dX3_hindranceToMove_45 : decode cX3_hindranceToMove 45 = .ok (.aload 5, 2) := by decide +kernel
theorem dX3_hindranceToMove_47 : decode cX3_hindranceToMove 47 = .ok (.getfield 101, 3) := by decide +kernel
theorem dX3_hindranceToMove_50 : decode cX3_hindranceToMove 50 = .ok (.bipush 12, 2) := by decide +kernel
theorem dX3_hindranceToMove_52 : decode cX3_hindranceToMove 52 = .ok (.if_icmp .lt 8, 3) := by decide +kernel
theorem dX3_hindranceToMove_55 : decode cX3_hindranceToMove 55 = .ok (.bipush (-5), 2) := by decide +kernel
theorem dX3_hindranceToMove_57 : decode cX3_hindranceToMove 57 = .ok (.goto 4, 3) := by decide +kernel
theorem dX3_hindranceToMove_60 : decode cX3_hindranceToMove 60 = .ok (.iconst 0, 1) := by decide +kernel
theorem dX3_hindranceToMove_61 : decode cX3_hindranceToMove 61 = .ok (.ireturn, 1) := by decide +kernel
theorem dX3_hindranceToMove_62 : decode cX3_hindranceToMove 62 = .ok (.aload_n 0, 1) := by decide +kernel
theorem dX3_hindranceToMove_63 : decode cX3_hindranceToMove 63 = .ok (.getfield 10, 3) := by decide +kernel
theorem dX3_hindranceToMove_66 : decode cX3_hindranceToMove 66 = .ok (.iload 6, 2) := by decide +kernel
theorem dX3_hindranceToMove_68 : decode cX3_hindranceToMove 68 = .ok (.invokevirtual 68, 3) := by decide +kernel
theorem dX3_hindranceToMove_71 : decode cX3_hindranceToMove 71 = .ok (.astore 7, 2) := by decide +kernel
theorem dX3_hindranceToMove_73 : decode cX3_hindranceToMove 73 = .ok (.aload_n 0, 1) := by decide +kernel
theorem dX3_hindranceToMove_74 : decode cX3_hindranceToMove 74 = .ok (.getfield 10, 3) := by decide +kernel
theorem dX3_hindranceToMove_77 : decode cX3_hindranceToMove 77 = .ok (.iload_n 2, 1) := by decide +kernel
theorem dX3_hindranceToMove_78 : decode cX3_hindranceToMove 78 = .ok (.invokevirtual 68, 3) := by decide +kernel
theorem dX3_hindranceToMove_81 : decode cX3_hindranceToMove 81 = .ok (.getfield 88, 3) := by decide +kernel
theorem dX3_hindranceToMove_84 : decode cX3_hindranceToMove 84 = .ok (.iconst 2, 1) := by decide +kernel
theorem dX3_hindranceToMove_85 : decode cX3_hindranceToMove 85 = .ok (.if_icmp .ne 7, 3) := by decide +kernel
theorem dX3_hindranceToMove_88 : decode cX3_hindranceToMove 88 = .ok (.iconst 1, 1) := by decide +kernel
theorem dX3_hindranceToMove_89 : decode cX3_hindranceToMove 89 = .ok (.goto 4, 3) := by decide +kernel
theorem dX3_hindranceToMove_92 : decode cX3_hindranceToMove 92 = .ok (.iconst 0, 1) := by decide +kernel
theorem dX3_hindranceToMove_93 : decode cX3_hindranceToMove 93 = .ok (.aload 7, 2) := by decide +kernel
theorem dX3_hindranceToMove_95 : decode cX3_hindranceToMove 95 = .ok (.getfield 88, 3) := by decide +kernel
theorem dX3_hindranceToMove_98 : decode cX3_hindranceToMove 98 = .ok (.iconst 2, 1) := by decide +kernel
theorem dX3_hindranceToMove_99 : decode cX3_hindranceToMove 99 = .ok (.if_icmp .ne 7, 3) := by decide +kernel
theorem dX3_hindranceToMove_102 : decode cX3_hindranceToMove 102 = .ok (.iconst 1, 1) := by decide +kernel
theorem dX3_hindranceToMove_103 : decode cX3_hindranceToMove 103 = .ok (.goto 4, 3) := by decide +kernel
theorem dX3_hindranceToMove_106 : decode cX3_hindranceToMove 106 = .ok (.iconst 0, 1) := by decide +kernel
theorem dX3_hindranceToMove_107 : decode cX3_hindranceToMove 107 = .ok (.if_icmp .eq 6, 3) := by decide +kernel
theorem dX3_hindranceToMove_110 : decode cX3_hindranceToMove 110 = .ok (.bipush (-3), 2) := by decide +kernel
theorem dX3_hindranceToMove_112 : decode cX3_hindranceToMove 112 = .ok (.ireturn, 1) := by decide +kernel
theorem dX3_hindranceToMove_113 : decode cX3_hindranceToMove 113 = .ok (.aload 7, 2) := by decide +kernel
theorem dX3_hindranceToMove_115 : decode cX3_hindranceToMove 115 = .ok (.getfield 101, 3) := by decide +kernel
theorem dX3_hindranceToMove_118 : decode cX3_hindranceToMove 118 = .ok (.ifCond .le 8, 3) := by decide +kernel
theorem dX3_hindranceToMove_121 : decode cX3_hindranceToMove 121 = .ok (.bipush (-4), 2) := by decide +kernel
theorem dX3_hindranceToMove_123 : decode cX3_hindranceToMove 123 = .ok (.goto 4, 3) := by decide +kernel
theorem dX3_hindranceToMove_126 : decode cX3_hindranceToMove 126 = .ok (.iconst 0, 1) := by decide +kernel
theorem dX3_hindranceToMove_127 : decode cX3_hindranceToMove 127 = .ok (.ireturn, 1) := by decide +kernel
theorem dX3_hindranceOfRoom_0 : decode cX3_hindranceOfRoom 0 = .ok (.aload_n 0, 1) := by decide +kernel
theorem dX3_hindranceOfRoom_1 : decode cX3_hindranceOfRoom 1 = .ok (.getfield 16, 3) := by decide +kernel
theorem dX3_hindranceOfRoom_4 : decode cX3_hindranceOfRoom 4 = .ok (.invokevirtual 286, 3) := by decide +kernel
theorem dX3_hindranceOfRoom_7 : decode cX3_hindranceOfRoom 7 = .ok (.bipush 120, 2) := by decide +kernel
theorem dX3_hindranceOfRoom_9 : decode cX3_hindranceOfRoom 9 = .ok (.if_icmp .le 6, 3) := by decide +kernel
theorem dX3_hindranceOfRoom_12 : decode cX3_hindranceOfRoom 12 = .ok (.bipush (-7), 2) := by decide +kernel
theorem dX3_hindranceOfRoom_14 : decode cX3_hindranceOfRoom 14 = .ok (.ireturn, 1) := by decide +kernel
theorem dX3_hindranceOfRoom_15 : decode cX3_hindranceOfRoom 15 = .ok (.iconst 0, 1) := by decide +kernel
theorem dX3_hindranceOfRoom_16 : decode cX3_hindranceOfRoom 16 = .ok (.istore_n 1, 1) := by decide +kernel
theorem dX3_hindranceOfRoom_17 : decode cX3_hindranceOfRoom 17 = .ok (.iload_n 1, 1) := by decide +kernel
theorem dX3_hindranceOfRoom_18 : decode cX3_hindranceOfRoom 18 = .ok (.iconst 4, 1) := by decide +kernel
theorem dX3_hindranceOfRoom_19 : decode cX3_hindranceOfRoom 19 = .ok (.if_icmp .ge 45, 3) := by decide +kernel
theorem dX3_hindranceOfRoom_22 : decode cX3_hindranceOfRoom 22 = .ok (.aload_n 0, 1) := by decide +kernel
theorem dX3_hindranceOfRoom_23 : decode cX3_hindranceOfRoom 23 = .ok (.getfield 16, 3) := by decide +kernel
theorem dX3_hindranceOfRoom_26 : decode cX3_hindranceOfRoom 26 = .ok (.iload_n 1, 1) := by decide +kernel
theorem dX3_hindranceOfRoom_27 : decode cX3_hindranceOfRoom 27 = .ok (.invokevirtual 289, 3) := by decide +kernel
theorem dX3_hindranceOfRoom_30 : decode cX3_hindranceOfRoom 30 = .ok (.istore_n 2, 1) := by decide +kernel
theorem dX3_hindranceOfRoom_31 : decode cX3_hindranceOfRoom 31 = .ok (.iload_n 2, 1) := by decide +kernel
theorem dX3_hindranceOfRoom_32 : decode cX3_hindranceOfRoom 32 = .ok (.aload_n 0, 1) := by decide +kernel
theorem dX3_hindranceOfRoom_33 : decode cX3_hindranceOfRoom 33 = .ok (.getfield 10, 3) := by decide +kernel
theorem dX3_hindranceOfRoom_36 : decode cX3_hindranceOfRoom 36 = .ok (.iload_n 1, 1) := by decide +kernel
theorem dX3_hindranceOfRoom_37 : decode cX3_hindranceOfRoom 37 = .ok (.invokevirtual 289, 3) := by decide +kernel
theorem dX3_hindranceOfRoom_40 : decode cX3_hindranceOfRoom 40 = .ok (.if_icmp .le 18, 3) := by decide +kernel
theorem dX3_hindranceOfRoom_43 : decode cX3_hindranceOfRoom 43 = .ok (.iload_n 2, 1) := by decide +kernel
theorem dX3_hindranceOfRoom_44 : decode cX3_hindranceOfRoom 44 = .ok (.aload_n 0, 1) := by decide +kernel
theorem dX3_hindranceOfRoom_45 : decode cX3_hindranceOfRoom 45 = .ok (.getfield 16, 3) := by decide +kernel
theorem dX3_hindranceOfRoom_48 : decode cX3_hindranceOfRoom 48 = .ok (.iload_n 1, 1) := by decide +kernel
theorem dX3_hindranceOfRoom_49 : decode cX3_hindranceOfRoom 49 = .ok (.invokevirtual 165, 3) := by decide +kernel
theorem dX3_hindranceOfRoom_52 : decode cX3_hindranceOfRoom 52 = .ok (.if_icmp .le 6, 3) := by decide +kernel
theorem dX3_hindranceOfRoom_55 : decode cX3_hindranceOfRoom 55 = .ok (.bipush (-8), 2) := by decide +kernel
theorem dX3_hindranceOfRoom_57 : decode cX3_hindranceOfRoom 57 = .ok (.ireturn, 1) := by decide +kernel
theorem dX3_hindranceOfRoom_58 : decode cX3_hindranceOfRoom 58 = .ok (.iinc 1 1, 3) := by decide +kernel
theorem dX3_hindranceOfRoom_61 : decode cX3_hindranceOfRoom 61 = .ok (.goto (-44), 3) := by decide +kernel
theorem dX3_hindranceOfRoom_64 : decode cX3_hindranceOfRoom 64 = .ok (.iconst 0, 1) := by decide +kernel
theorem dX3_hindranceOfRoom_65 : decode cX3_hindranceOfRoom 65 = .ok (.ireturn, 1) := by decide +kernel
theorem dX3_firstAgainst_0 : decode cX3_firstAgainst 0 = .ok (.aload_n 0, 1) := by decide +kernel
theorem dX3_firstAgainst_1 : decode cX3_firstAgainst 1 = .ok (.iload_n 1, 1) := by decide +kernel
theorem dX3_firstAgainst_2 : decode cX3_firstAgainst 2 = .ok (.invokevirtual 128, 3) := by decide +kernel
theorem dX3_firstAgainst_5 : decode cX3_firstAgainst 5 = .ok (.getfield 135, 3) := by decide +kernel
theorem dX3_firstAgainst_8 : decode cX3_firstAgainst 8 = .ok (.istore 5, 2) := by decide +kernel
theorem dX3_firstAgainst_10 : decode cX3_firstAgainst 10 = .ok (.iconst 0, 1) := by decide +kernel
theorem dX3_firstAgainst_11 : decode cX3_firstAgainst 11 = .ok (.istore 6, 2) := by decide +kernel
theorem dX3_firstAgainst_13 : decode cX3_firstAgainst 13 = .ok (.iload 6, 2) := by decide +kernel
theorem dX3_firstAgainst_15 : decode cX3_firstAgainst 15 = .ok (.aload_n 0, 1) := by decide +kernel
theorem dX3_firstAgainst_16 : decode cX3_firstAgainst 16 = .ok (.getfield 24, 3) := by decide +kernel
theorem dX3_firstAgainst_19 : decode cX3_firstAgainst 19 = .ok (.arraylength, 1) := by decide +kernel
theorem dX3_firstAgainst_20 : decode cX3_firstAgainst 20 = .ok (.if_icmp .ge 50, 3) := by decide +kernel
theorem dX3_firstAgainst_23 : decode cX3_firstAgainst 23 = .ok (.iload 6, 2) := by decide +kernel
theorem dX3_firstAgainst_25 : decode cX3_firstAgainst 25 = .ok (.iload_n 1, 1) := by decide +kernel
theorem dX3_firstAgainst_26 : decode cX3_firstAgainst 26 = .ok (.if_icmp .eq 38, 3) := by decide +kernel
theorem dX3_firstAgainst_29 : decode cX3_firstAgainst 29 = .ok (.aload_n 0, 1) := by decide +kernel
theorem dX3_firstAgainst_30 : decode cX3_firstAgainst 30 = .ok (.getfield 24, 3) := by decide +kernel
theorem dX3_firstAgainst_33 : decode cX3_firstAgainst 33 = .ok (.iload 6, 2) := by decide +kernel
theorem dX3_firstAgainst_35 : decode cX3_firstAgainst 35 = .ok (.aaload, 1) := by decide +kernel
theorem dX3_firstAgainst_36 : decode cX3_firstAgainst 36 = .ok (.iload 5, 2) := by decide +kernel
theorem dX3_firstAgainst_38 : decode cX3_firstAgainst 38 = .ok (.invokevirtual 215, 3) := by decide +kernel
theorem dX3_firstAgainst_41 : decode cX3_firstAgainst 41 = .ok (.ifCond .eq 23, 3) := by decide +kernel
theorem dX3_firstAgainst_44 : decode cX3_firstAgainst 44 = .ok (.aload_n 0, 1) := by decide +kernel
theorem dX3_firstAgainst_45 : decode cX3_firstAgainst 45 = .ok (.getfield 24, 3) := by decide +kernel
theorem dX3_firstAgainst_48 : decode cX3_firstAgainst 48 = .ok (.iload 6, 2) := by decide +kernel
theorem dX3_firstAgainst_50 : decode cX3_firstAgainst 50 = .ok (.aaload, 1) := by decide +kernel
theorem dX3_firstAgainst_51 : decode cX3_firstAgainst 51 = .ok (.iload_n 2, 1) := by decide +kernel
theorem dX3_firstAgainst_52 : decode cX3_firstAgainst 52 = .ok (.iload_n 3, 1) := by decide +kernel
theorem dX3_firstAgainst_53 : decode cX3_firstAgainst 53 = .ok (.iload 4, 2) := by decide +kernel
theorem dX3_firstAgainst_55 : decode cX3_firstAgainst 55 = .ok (.invokevirtual 389, 3) := by decide +kernel
theorem dX3_firstAgainst_58 : decode cX3_firstAgainst 58 = .ok (.ifCond .eq 6, 3) := by decide +kernel
theorem dX3_firstAgainst_61 : decode cX3_firstAgainst 61 = .ok (.iload 6, 2) := by decide +kernel
theorem dX3_firstAgainst_63 : decode cX3_firstAgainst 63 = .ok (.ireturn, 1) := by decide +kernel
theorem dX3_firstAgainst_64 : decode cX3_firstAgainst 64 = .ok (.iinc 6 1, 3) := by decide +kernel
theorem dX3_firstAgainst_67 : decode cX3_firstAgainst 67 = .ok (.goto (-54), 3) := by decide +kernel
theorem dX3_firstAgainst_70 : decode cX3_firstAgainst 70 = .ok (.iconst (-1), 1) := by decide +kernel
theorem dX3_firstAgainst_71 : decode cX3_firstAgainst 71 = .ok (.ireturn, 1) := by decide +kernel
theorem dX3_startDraft_0 : decode cX3_startDraft 0 = .ok (.aload_n 0, 1) := by decide +kernel
theorem dX3_startDraft_1 : decode cX3_startDraft 1 = .ok (.getfield 16, 3) := by decide +kernel
theorem dX3_startDraft_4 : decode cX3_startDraft 4 = .ok (.aload_n 0, 1) := by decide +kernel
theorem dX3_startDraft_5 : decode cX3_startDraft 5 = .ok (.getfield 10, 3) := by decide +kernel
theorem dX3_startDraft_8 : decode cX3_startDraft 8 = .ok (.invokevirtual 237, 3) := by decide +kernel
theorem dX3_startDraft_11 : decode cX3_startDraft 11 = .ok (.return_, 1) := by decide +kernel
theorem dX3_makeEmpty_0 : decode cX3_makeEmpty 0 = .ok (.aload_n 0, 1) := by decide +kernel
theorem dX3_makeEmpty_1 : decode cX3_makeEmpty 1 = .ok (.iload_n 2, 1) := by decide +kernel
theorem dX3_makeEmpty_2 : decode cX3_makeEmpty 2 = .ok (.iload_n 3, 1) := by decide +kernel
theorem dX3_makeEmpty_3 : decode cX3_makeEmpty 3 = .ok (.invokevirtual 58, 3) := by decide +kernel
theorem dX3_makeEmpty_6 : decode cX3_makeEmpty 6 = .ok (.istore 4, 2) := by decide +kernel
theorem dX3_makeEmpty_8 : decode cX3_makeEmpty 8 = .ok (.iload 4, 2) := by decide +kernel
theorem dX3_makeEmpty_10 : decode cX3_makeEmpty 10 = .ok (.ifCond .eq 6, 3) := by decide +kernel
theorem dX3_makeEmpty_13 : decode cX3_makeEmpty 13 = .ok (.iload 4, 2) := by decide +kernel
theorem dX3_makeEmpty_15 : decode cX3_makeEmpty 15 = .ok (.ireturn, 1) := by decide +kernel
theorem dX3_makeEmpty_16 : decode cX3_makeEmpty 16 = .ok (.aload_n 0, 1) := by decide +kernel
theorem dX3_makeEmpty_17 : decode cX3_makeEmpty 17 = .ok (.invokevirtual 62, 3) := by decide +kernel
theorem dX3_makeEmpty_20 : decode cX3_makeEmpty 20 = .ok (.aload_n 0, 1) := by decide +kernel
theorem dX3_makeEmpty_21 : decode cX3_makeEmpty 21 = .ok (.aload_n 0, 1) := by decide +kernel
theorem dX3_makeEmpty_22 : decode cX3_makeEmpty 22 = .ok (.getfield 16, 3) := by decide +kernel
theorem dX3_makeEmpty_25 : decode cX3_makeEmpty 25 = .ok (.iload_n 1, 1) := by decide +kernel
theorem dX3_makeEmpty_26 : decode cX3_makeEmpty 26 = .ok (.iload_n 2, 1) := by decide +kernel
theorem dX3_makeEmpty_27 : decode cX3_makeEmpty 27 = .ok (.iload_n 3, 1) := by decide +kernel
theorem dX3_makeEmpty_28 : decode cX3_makeEmpty 28 = .ok (.invokevirtual 65, 3) := by decide +kernel
theorem dX3_makeEmpty_31 : decode cX3_makeEmpty 31 = .ok (.invokevirtual 77, 3) := by decide +kernel
theorem dX3_makeEmpty_34 : decode cX3_makeEmpty 34 = .ok (.ireturn, 1) := by decide +kernel
theorem dX3_takeName_0 : decode cX3_takeName 0 = .ok (.aload_n 0, 1) := by decide +kernel
theorem dX3_takeName_1 : decode cX3_takeName 1 = .ok (.getfield 16, 3) := by decide +kernel
theorem dX3_takeName_4 : decode cX3_takeName 4 = .ok (.iload_n 1, 1) := by decide +kernel
theorem dX3_takeName_5 : decode cX3_takeName 5 = .ok (.iload_n 2, 1) := by decide +kernel
theorem dX3_takeName_6 : decode cX3_takeName 6 = .ok (.invokevirtual 118, 3) := by decide +kernel
theorem dX3_takeName_9 : decode cX3_takeName 9 = .ok (.istore_n 3, 1) := by decide +kernel
theorem dX3_takeName_10 : decode cX3_takeName 10 = .ok (.iload_n 3, 1) := by decide +kernel
theorem dX3_takeName_11 : decode cX3_takeName 11 = .ok (.iconst (-1), 1) := by decide +kernel
theorem dX3_takeName_12 : decode cX3_takeName 12 = .ok (.if_icmp .eq 33, 3) := by decide +kernel
theorem dX3_takeName_15 : decode cX3_takeName 15 = .ok (.aload_n 0, 1) := by decide +kernel
theorem dX3_takeName_16 : decode cX3_takeName 16 = .ok (.getfield 16, 3) := by decide +kernel
theorem dX3_takeName_19 : decode cX3_takeName 19 = .ok (.iload_n 3, 1) := by decide +kernel
theorem dX3_takeName_20 : decode cX3_takeName 20 = .ok (.invokevirtual 68, 3) := by decide +kernel
theorem dX3_takeName_23 : decode cX3_takeName 23 = .ok (.getfield 95, 3) := by decide +kernel
theorem dX3_takeName_26 : decode cX3_takeName 26 = .ok (.ifCond .ne 19, 3) := by decide +kernel
theorem dX3_takeName_29 : decode cX3_takeName 29 = .ok (.aload_n 0, 1) := by decide +kernel
theorem dX3_takeName_30 : decode cX3_takeName 30 = .ok (.iload_n 3, 1) := by decide +kernel
theorem dX3_takeName_31 : decode cX3_takeName 31 = .ok (.invokevirtual 181, 3) := by decide +kernel
theorem dX3_takeName_34 : decode cX3_takeName 34 = .ok (.ifCond .ne 11, 3) := by decide +kernel
theorem dX3_takeName_37 : decode cX3_takeName 37 = .ok (.aload_n 0, 1) := by decide +kernel
theorem dX3_takeName_38 : decode cX3_takeName 38 = .ok (.getfield 16, 3) := by decide +kernel
theorem dX3_takeName_41 : decode cX3_takeName 41 = .ok (.iload_n 3, 1) := by decide +kernel
theorem dX3_takeName_42 : decode cX3_takeName 42 = .ok (.invokevirtual 185, 3) := by decide +kernel
theorem dX3_takeName_45 : decode cX3_takeName 45 = .ok (.return_, 1) := by decide +kernel
theorem dX3_isHeld_0 : decode cX3_isHeld 0 = .ok (.iconst 0, 1) := by decide +kernel
theorem dX3_isHeld_1 : decode cX3_isHeld 1 = .ok (.istore_n 2, 1) := by decide +kernel
theorem dX3_isHeld_2 : decode cX3_isHeld 2 = .ok (.iload_n 2, 1) := by decide +kernel
theorem dX3_isHeld_3 : decode cX3_isHeld 3 = .ok (.aload_n 0, 1) := by decide +kernel
theorem dX3_isHeld_4 : decode cX3_isHeld 4 = .ok (.getfield 24, 3) := by decide +kernel
theorem dX3_isHeld_7 : decode cX3_isHeld 7 = .ok (.arraylength, 1) := by decide +kernel
theorem dX3_isHeld_8 : decode cX3_isHeld 8 = .ok (.if_icmp .ge 24, 3) := by decide +kernel
theorem dX3_isHeld_11 : decode cX3_isHeld 11 = .ok (.aload_n 0, 1) := by decide +kernel
theorem dX3_isHeld_12 : decode cX3_isHeld 12 = .ok (.getfield 24, 3) := by decide +kernel
theorem dX3_isHeld_15 : decode cX3_isHeld 15 = .ok (.iload_n 2, 1) := by decide +kernel
theorem dX3_isHeld_16 : decode cX3_isHeld 16 = .ok (.aaload, 1) := by decide +kernel
theorem dX3_isHeld_17 : decode cX3_isHeld 17 = .ok (.iload_n 1, 1) := by decide +kernel
theorem dX3_isHeld_18 : decode cX3_isHeld 18 = .ok (.invokevirtual 215, 3) := by decide +kernel
theorem dX3_isHeld_21 : decode cX3_isHeld 21 = .ok (.ifCond .eq 5, 3) := by decide +kernel
theorem dX3_isHeld_24 : decode cX3_isHeld 24 = .ok (.iconst 1, 1) := by decide +kernel
theorem dX3_isHeld_25 : decode cX3_isHeld 25 = .ok (.ireturn, 1) := by decide +kernel
theorem dX3_isHeld_26 : decode cX3_isHeld 26 = .ok (.iinc 2 1, 3) := by decide +kernel
theorem dX3_isHeld_29 : decode cX3_isHeld 29 = .ok (.goto (-27), 3) := by decide +kernel
theorem dX3_isHeld_32 : decode cX3_isHeld 32 = .ok (.iconst 0, 1) := by decide +kernel
theorem dX3_isHeld_33 : decode cX3_isHeld 33 = .ok (.ireturn, 1) := by decide +kernel
theorem dX3_settle_0 : decode cX3_settle 0 = .ok (.aload_n 0, 1) := by decide +kernel
theorem dX3_settle_1 : decode cX3_settle 1 = .ok (.invokevirtual 393, 3) := by decide +kernel
theorem dX3_settle_4 : decode cX3_settle 4 = .ok (.istore_n 2, 1) := by decide +kernel
theorem dX3_settle_5 : decode cX3_settle 5 = .ok (.iload_n 2, 1) := by decide +kernel
theorem dX3_settle_6 : decode cX3_settle 6 = .ok (.ifCond .eq 5, 3) := by decide +kernel
theorem dX3_settle_9 : decode cX3_settle 9 = .ok (.iload_n 2, 1) := by decide +kernel
theorem dX3_settle_10 : decode cX3_settle 10 = .ok (.ireturn, 1) := by decide +kernel
theorem dX3_settle_11 : decode cX3_settle 11 = .ok (.aload_n 0, 1) := by decide +kernel
theorem dX3_settle_12 : decode cX3_settle 12 = .ok (.getfield 10, 3) := by decide +kernel
theorem dX3_settle_15 : decode cX3_settle 15 = .ok (.astore_n 3, 1) := by decide +kernel
theorem dX3_settle_16 : decode cX3_settle 16 = .ok (.aload_n 0, 1) := by decide +kernel
theorem dX3_settle_17 : decode cX3_settle 17 = .ok (.aload_n 0, 1) := by decide +kernel
theorem dX3_settle_18 : decode cX3_settle 18 = .ok (.getfield 16, 3) := by decide +kernel
theorem dX3_settle_21 : decode cX3_settle 21 = .ok (.putfield 10, 3) := by decide +kernel
theorem dX3_settle_24 : decode cX3_settle 24 = .ok (.aload_n 0, 1) := by decide +kernel
theorem dX3_settle_25 : decode cX3_settle 25 = .ok (.aload_n 3, 1) := by decide +kernel
theorem dX3_settle_26 : decode cX3_settle 26 = .ok (.putfield 16, 3) := by decide +kernel
theorem dX3_settle_29 : decode cX3_settle 29 = .ok (.aload_n 0, 1) := by decide +kernel
theorem dX3_settle_30 : decode cX3_settle 30 = .ok (.getfield 10, 3) := by decide +kernel
theorem dX3_settle_33 : decode cX3_settle 33 = .ok (.dup, 1) := by decide +kernel
theorem dX3_settle_34 : decode cX3_settle 34 = .ok (.getfield 241, 3) := by decide +kernel
theorem dX3_settle_37 : decode cX3_settle 37 = .ok (.iconst 1, 1) := by decide +kernel
theorem dX3_settle_38 : decode cX3_settle 38 = .ok (.iadd, 1) := by decide +kernel
theorem dX3_settle_39 : decode cX3_settle 39 = .ok (.putfield 241, 3) := by decide +kernel
theorem dX3_settle_42 : decode cX3_settle 42 = .ok (.aload_n 0, 1) := by decide +kernel
theorem dX3_settle_43 : decode cX3_settle 43 = .ok (.dup, 1) := by decide +kernel
theorem dX3_settle_44 : decode cX3_settle 44 = .ok (.getfield 28, 3) := by decide +kernel
theorem dX3_settle_47 : decode cX3_settle 47 = .ok (.iconst 1, 1) := by decide +kernel
theorem dX3_settle_48 : decode cX3_settle 48 = .ok (.iadd, 1) := by decide +kernel
theorem dX3_settle_49 : decode cX3_settle 49 = .ok (.putfield 28, 3) := by decide +kernel
theorem dX3_settle_52 : decode cX3_settle 52 = .ok (.aload_n 0, 1) := by decide +kernel
theorem dX3_settle_53 : decode cX3_settle 53 = .ok (.getfield 28, 3) := by decide +kernel
theorem dX3_settle_56 : decode cX3_settle 56 = .ok (.bipush 8, 2) := by decide +kernel
theorem dX3_settle_58 : decode cX3_settle 58 = .ok (.if_icmp .lt 10, 3) := by decide +kernel
theorem dX3_settle_61 : decode cX3_settle 61 = .ok (.aload_n 0, 1) := by decide +kernel
theorem dX3_settle_62 : decode cX3_settle 62 = .ok (.invokevirtual 221, 3) := by decide +kernel
theorem dX3_settle_65 : decode cX3_settle 65 = .ok (.ifCond .eq 7, 3) := by decide +kernel
theorem dX3_settle_68 : decode cX3_settle 68 = .ok (.iload_n 1, 1) := by decide +kernel
theorem dX3_settle_69 : decode cX3_settle 69 = .ok (.goto 5, 3) := by decide +kernel
theorem dX3_settle_72 : decode cX3_settle 72 = .ok (.bipush (-9), 2) := by decide +kernel
theorem dX3_settle_74 : decode cX3_settle 74 = .ok (.ireturn, 1) := by decide +kernel
theorem dX3_commit_0 : decode cX3_commit 0 = .ok (.aload_n 0, 1) := by decide +kernel
theorem dX3_commit_1 : decode cX3_commit 1 = .ok (.getfield 39, 3) := by decide +kernel
theorem dX3_commit_4 : decode cX3_commit 4 = .ok (.ifCond .eq 11, 3) := by decide +kernel
theorem dX3_commit_7 : decode cX3_commit 7 = .ok (.aload_n 0, 1) := by decide +kernel
theorem dX3_commit_8 : decode cX3_commit 8 = .ok (.getfield 39, 3) := by decide +kernel
theorem dX3_commit_11 : decode cX3_commit 11 = .ok (.iconst 1, 1) := by decide +kernel
theorem dX3_commit_12 : decode cX3_commit 12 = .ok (.if_icmp .ne 7, 3) := by decide +kernel
theorem dX3_commit_15 : decode cX3_commit 15 = .ok (.iconst 1, 1) := by decide +kernel
theorem dX3_commit_16 : decode cX3_commit 16 = .ok (.goto 4, 3) := by decide +kernel
theorem dX3_commit_19 : decode cX3_commit 19 = .ok (.iconst 0, 1) := by decide +kernel
theorem dX3_commit_20 : decode cX3_commit 20 = .ok (.istore_n 1, 1) := by decide +kernel
theorem dX3_commit_21 : decode cX3_commit 21 = .ok (.iload_n 1, 1) := by decide +kernel
theorem dX3_commit_22 : decode cX3_commit 22 = .ok (.ifCond .eq 20, 3) := by decide +kernel
theorem dX3_commit_25 : decode cX3_commit 25 = .ok (.aload_n 0, 1) := by decide +kernel
theorem dX3_commit_26 : decode cX3_commit 26 = .ok (.getfield 39, 3) := by decide +kernel
theorem dX3_commit_29 : decode cX3_commit 29 = .ok (.iconst 1, 1) := by decide +kernel
theorem dX3_commit_30 : decode cX3_commit 30 = .ok (.if_icmp .ne 28, 3) := by decide +kernel
theorem dX3_commit_33 : decode cX3_commit 33 = .ok (.aload_n 0, 1) := by decide +kernel
theorem dX3_commit_34 : decode cX3_commit 34 = .ok (.getfield 42, 3) := by decide +kernel
theorem dX3_commit_37 : decode cX3_commit 37 = .ok (.bipush 32, 2) := by decide +kernel
theorem dX3_commit_39 : decode cX3_commit 39 = .ok (.if_icmp .lt 19, 3) := by decide +kernel
theorem dX3_commit_42 : decode cX3_commit 42 = .ok (.aload_n 0, 1) := by decide +kernel
theorem dX3_commit_43 : decode cX3_commit 43 = .ok (.getfield 19, 3) := by decide +kernel
theorem dX3_commit_46 : decode cX3_commit 46 = .ok (.aload_n 0, 1) := by decide +kernel
theorem dX3_commit_47 : decode cX3_commit 47 = .ok (.getfield 10, 3) := by decide +kernel
theorem dX3_commit_50 : decode cX3_commit 50 = .ok (.invokevirtual 237, 3) := by decide +kernel
theorem dX3_commit_53 : decode cX3_commit 53 = .ok (.aload_n 0, 1) := by decide +kernel
theorem dX3_commit_54 : decode cX3_commit 54 = .ok (.iconst 0, 1) := by decide +kernel
theorem dX3_commit_55 : decode cX3_commit 55 = .ok (.putfield 28, 3) := by decide +kernel
theorem dX3_commit_58 : decode cX3_commit 58 = .ok (.iload_n 1, 1) := by decide +kernel
theorem dX3_commit_59 : decode cX3_commit 59 = .ok (.ifCond .eq 12, 3) := by decide +kernel
theorem dX3_commit_62 : decode cX3_commit 62 = .ok (.aload_n 0, 1) := by decide +kernel
theorem dX3_commit_63 : decode cX3_commit 63 = .ok (.iconst (-1), 1) := by decide +kernel
theorem dX3_commit_64 : decode cX3_commit 64 = .ok (.putfield 39, 3) := by decide +kernel
theorem dX3_commit_67 : decode cX3_commit 67 = .ok (.aload_n 0, 1) := by decide +kernel
theorem dX3_commit_68 : decode cX3_commit 68 = .ok (.invokevirtual 224, 3) := by decide +kernel
theorem dX3_commit_71 : decode cX3_commit 71 = .ok (.iload_n 1, 1) := by decide +kernel
theorem dX3_commit_72 : decode cX3_commit 72 = .ok (.ifCond .ne 7, 3) := by decide +kernel
theorem dX3_commit_75 : decode cX3_commit 75 = .ok (.iconst 1, 1) := by decide +kernel
theorem dX3_commit_76 : decode cX3_commit 76 = .ok (.goto 4, 3) := by decide +kernel
theorem dX3_commit_79 : decode cX3_commit 79 = .ok (.iconst 0, 1) := by decide +kernel
theorem dX3_commit_80 : decode cX3_commit 80 = .ok (.ireturn, 1) := by decide +kernel
theorem dX3_fall_0 : decode cX3_fall 0 = .ok (.aload_n 0, 1) := by decide +kernel
theorem dX3_fall_1 : decode cX3_fall 1 = .ok (.iconst 1, 1) := by decide +kernel
theorem dX3_fall_2 : decode cX3_fall 2 = .ok (.putfield 32, 3) := by decide +kernel
theorem dX3_fall_5 : decode cX3_fall 5 = .ok (.aload_n 0, 1) := by decide +kernel
theorem dX3_fall_6 : decode cX3_fall 6 = .ok (.iconst 0, 1) := by decide +kernel
theorem dX3_fall_7 : decode cX3_fall 7 = .ok (.putfield 28, 3) := by decide +kernel
theorem dX3_fall_10 : decode cX3_fall 10 = .ok (.iconst 0, 1) := by decide +kernel
theorem dX3_fall_11 : decode cX3_fall 11 = .ok (.istore_n 1, 1) := by decide +kernel
theorem dX3_fall_12 : decode cX3_fall 12 = .ok (.iload_n 1, 1) := by decide +kernel
theorem dX3_fall_13 : decode cX3_fall 13 = .ok (.aload_n 0, 1) := by decide +kernel
theorem dX3_fall_14 : decode cX3_fall 14 = .ok (.getfield 24, 3) := by decide +kernel
theorem dX3_fall_17 : decode cX3_fall 17 = .ok (.arraylength, 1) := by decide +kernel
theorem dX3_fall_18 : decode cX3_fall 18 = .ok (.if_icmp .ge 18, 3) := by decide +kernel
theorem dX3_fall_21 : decode cX3_fall 21 = .ok (.aload_n 0, 1) := by decide +kernel
theorem dX3_fall_22 : decode cX3_fall 22 = .ok (.getfield 24, 3) := by decide +kernel
theorem dX3_fall_25 : decode cX3_fall 25 = .ok (.iload_n 1, 1) := by decide +kernel
theorem dX3_fall_26 : decode cX3_fall 26 = .ok (.aaload, 1) := by decide +kernel
theorem dX3_fall_27 : decode cX3_fall 27 = .ok (.invokevirtual 174, 3) := by decide +kernel
theorem dX3_fall_30 : decode cX3_fall 30 = .ok (.iinc 1 1, 3) := by decide +kernel
theorem dX3_fall_33 : decode cX3_fall 33 = .ok (.goto (-21), 3) := by decide +kernel
theorem dX3_fall_36 : decode cX3_fall 36 = .ok (.return_, 1) := by decide +kernel
theorem dJ9_max_7cf53_0 : decode cJ9_max_7cf53 0 = .ok (.iload_n 0, 1) := by decide +kernel
theorem dJ9_max_7cf53_1 : decode cJ9_max_7cf53 1 = .ok (.iload_n 1, 1) := by decide +kernel
theorem dJ9_max_7cf53_2 : decode cJ9_max_7cf53 2 = .ok (.if_icmp .lt 7, 3) := by decide +kernel
theorem dJ9_max_7cf53_5 : decode cJ9_max_7cf53 5 = .ok (.iload_n 0, 1) := by decide +kernel
theorem dJ9_max_7cf53_6 : decode cJ9_max_7cf53 6 = .ok (.goto 4, 3) := by decide +kernel
theorem dJ9_max_7cf53_9 : decode cJ9_max_7cf53 9 = .ok (.iload_n 1, 1) := by decide +kernel
theorem dJ9_max_7cf53_10 : decode cJ9_max_7cf53 10 = .ok (.ireturn, 1) := by decide +kernel
theorem dJ9_min_7cf53_0 : decode cJ9_min_7cf53 0 = .ok (.iload_n 0, 1) := by decide +kernel
theorem dJ9_min_7cf53_1 : decode cJ9_min_7cf53 1 = .ok (.iload_n 1, 1) := by decide +kernel
theorem dJ9_min_7cf53_2 : decode cJ9_min_7cf53 2 = .ok (.if_icmp .gt 7, 3) := by decide +kernel
theorem dJ9_min_7cf53_5 : decode cJ9_min_7cf53 5 = .ok (.iload_n 0, 1) := by decide +kernel
theorem dJ9_min_7cf53_6 : decode cJ9_min_7cf53 6 = .ok (.goto 4, 3) := by decide +kernel
theorem dJ9_min_7cf53_9 : decode cJ9_min_7cf53 9 = .ok (.iload_n 1, 1) := by decide +kernel
theorem dJ9_min_7cf53_10 : decode cJ9_min_7cf53 10 = .ok (.ireturn, 1) := by decide +kernel
abbrev vwCl : List vw_C := [(RX0, TX0, 4), (RX1, TX1, 12), (RX2, TX2, 8), (RX3, TX3, 9), (RX4, TX4, 14)]
