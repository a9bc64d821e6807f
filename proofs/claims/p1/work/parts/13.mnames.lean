abbrev cX4_init : ByteArray := prog_6_method_1_code
def yX4_init : MethodName := ⟨RX4, "<init>", "()V"⟩
abbrev cX4_thrown : ByteArray := prog_6_method_2_code
def yX4_thrown : MethodName := ⟨RX4, "thrown", "()I"⟩
abbrev cX4_refuse : ByteArray := prog_6_method_3_code
def yX4_refuse : MethodName := ⟨RX4, "refuse", "(I)Z"⟩
abbrev cX4_isOff : ByteArray := prog_6_method_4_code
def yX4_isOff : MethodName := ⟨RX4, "isOff", "()Z"⟩
abbrev cX4_isIn : ByteArray := prog_6_method_5_code
def yX4_isIn : MethodName := ⟨RX4, "isIn", "(III)Z"⟩
abbrev cX4_isNode : ByteArray := prog_6_method_6_code
def yX4_isNode : MethodName := ⟨RX4, "isNode", "(I)Z"⟩
abbrev cX4_isOpen : ByteArray := prog_6_method_7_code
def yX4_isOpen : MethodName := ⟨RX4, "isOpen", "(I)Z"⟩
abbrev cX4_is : ByteArray := prog_6_method_8_code
def yX4_is : MethodName := ⟨RX4, "is", "([III)Z"⟩
abbrev cX4_entries : ByteArray := prog_6_method_9_code
def yX4_entries : MethodName := ⟨RX4, "entries", "([II)I"⟩
abbrev cX4_where : ByteArray := prog_6_method_10_code
def yX4_where : MethodName := ⟨RX4, "where", "([III)I"⟩
abbrev cX4_nodeAt : ByteArray := prog_6_method_11_code
def yX4_nodeAt : MethodName := ⟨RX4, "nodeAt", "([III)I"⟩
abbrev cX4_put : ByteArray := prog_6_method_12_code
def yX4_put : MethodName := ⟨RX4, "put", "([IIII)V"⟩
abbrev cX4_takeAway : ByteArray := prog_6_method_13_code
def yX4_takeAway : MethodName := ⟨RX4, "takeAway", "([III)V"⟩
abbrev cX4_links : ByteArray := prog_6_method_14_code
def yX4_links : MethodName := ⟨RX4, "links", "([II)I"⟩
abbrev cX4_parent : ByteArray := prog_6_method_15_code
def yX4_parent : MethodName := ⟨RX4, "parent", "([II)I"⟩
abbrev cX4_isWithin : ByteArray := prog_6_method_16_code
def yX4_isWithin : MethodName := ⟨RX4, "isWithin", "([III)Z"⟩
abbrev cX4_freeNode : ByteArray := prog_6_method_17_code
def yX4_freeNode : MethodName := ⟨RX4, "freeNode", "([I)I"⟩
abbrev cX4_uses : ByteArray := prog_6_method_18_code
def yX4_uses : MethodName := ⟨RX4, "uses", "([II)I"⟩
abbrev cX4_folderBlocks : ByteArray := prog_6_method_19_code
def yX4_folderBlocks : MethodName := ⟨RX4, "folderBlocks", "(I)I"⟩
abbrev cX4_blocks : ByteArray := prog_6_method_20_code
def yX4_blocks : MethodName := ⟨RX4, "blocks", "([II)I"⟩
abbrev cX4_fileBlocks : ByteArray := prog_6_method_21_code
def yX4_fileBlocks : MethodName := ⟨RX4, "fileBlocks", "([I[Z)I"⟩
abbrev cX4_all : ByteArray := prog_6_method_22_code
def yX4_all : MethodName := ⟨RX4, "all", "()[Z"⟩
abbrev cX4_used : ByteArray := prog_6_method_23_code
def yX4_used : MethodName := ⟨RX4, "used", "([I)I"⟩
abbrev cX4_usedBy : ByteArray := prog_6_method_24_code
def yX4_usedBy : MethodName := ⟨RX4, "usedBy", "([II)I"⟩
abbrev cX4_byteOf : ByteArray := prog_6_method_25_code
def yX4_byteOf : MethodName := ⟨RX4, "byteOf", "([III)I"⟩
abbrev cX4_own : ByteArray := prog_6_method_26_code
def yX4_own : MethodName := ⟨RX4, "own", "([III)I"⟩
abbrev cX4_set : ByteArray := prog_6_method_27_code
def yX4_set : MethodName := ⟨RX4, "set", "([IIII)V"⟩
abbrev cX4_remove : ByteArray := prog_6_method_28_code
def yX4_remove : MethodName := ⟨RX4, "remove", "([II)V"⟩
abbrev cX4_opens : ByteArray := prog_6_method_29_code
def yX4_opens : MethodName := ⟨RX4, "opens", "(I)I"⟩
abbrev cX4_lessen : ByteArray := prog_6_method_30_code
def yX4_lessen : MethodName := ⟨RX4, "lessen", "(I)V"⟩
abbrev cX4_begin : ByteArray := prog_6_method_31_code
def yX4_begin : MethodName := ⟨RX4, "begin", "()V"⟩
abbrev cX4_hinders : ByteArray := prog_6_method_32_code
def yX4_hinders : MethodName := ⟨RX4, "hinders", "()I"⟩
abbrev cX4_done : ByteArray := prog_6_method_33_code
def yX4_done : MethodName := ⟨RX4, "done", "(I)I"⟩
abbrev cX4_doneUnless : ByteArray := prog_6_method_34_code
def yX4_doneUnless : MethodName := ⟨RX4, "doneUnless", "(II)I"⟩
abbrev cX4_fall : ByteArray := prog_6_method_35_code
def yX4_fall : MethodName := ⟨RX4, "fall", "()V"⟩
abbrev cX4_closeHandle : ByteArray := prog_6_method_36_code
def yX4_closeHandle : MethodName := ⟨RX4, "closeHandle", "(I)V"⟩
abbrev cX4_falls : ByteArray := prog_6_method_37_code
def yX4_falls : MethodName := ⟨RX4, "falls", "(I)Z"⟩
abbrev cX4_isCommitted : ByteArray := prog_6_method_38_code
def yX4_isCommitted : MethodName := ⟨RX4, "isCommitted", "()Z"⟩
abbrev cX4_isName : ByteArray := prog_6_method_39_code
def yX4_isName : MethodName := ⟨RX4, "isName", "(I)Z"⟩
abbrev cX4_isRefused : ByteArray := prog_6_method_40_code
def yX4_isRefused : MethodName := ⟨RX4, "isRefused", "(II)Z"⟩
abbrev cX4_entryHinders : ByteArray := prog_6_method_41_code
def yX4_entryHinders : MethodName := ⟨RX4, "entryHinders", "(II)I"⟩
abbrev cX4_newNode : ByteArray := prog_6_method_42_code
def yX4_newNode : MethodName := ⟨RX4, "newNode", "(III)I"⟩
abbrev cX4_makeHinders : ByteArray := prog_6_method_43_code
def yX4_makeHinders : MethodName := ⟨RX4, "makeHinders", "(II)I"⟩
abbrev cX4_make : ByteArray := prog_6_method_44_code
def yX4_make : MethodName := ⟨RX4, "make", "(III)I"⟩
abbrev cX4_makeFile : ByteArray := prog_6_method_45_code
def yX4_makeFile : MethodName := ⟨RX4, "makeFile", "(II)I"⟩
abbrev cX4_makeFolder : ByteArray := prog_6_method_46_code
def yX4_makeFolder : MethodName := ⟨RX4, "makeFolder", "(II)I"⟩
abbrev cX4_makeLink : ByteArray := prog_6_method_47_code
def yX4_makeLink : MethodName := ⟨RX4, "makeLink", "(IIIII)I"⟩
abbrev cX4_cloneFile : ByteArray := prog_6_method_48_code
def yX4_cloneFile : MethodName := ⟨RX4, "cloneFile", "(III)I"⟩
abbrev cX4_addName : ByteArray := prog_6_method_49_code
def yX4_addName : MethodName := ⟨RX4, "addName", "(III)I"⟩
abbrev cX4_unlink : ByteArray := prog_6_method_50_code
def yX4_unlink : MethodName := ⟨RX4, "unlink", "(II)I"⟩
abbrev cX4_removeFolder : ByteArray := prog_6_method_51_code
def yX4_removeFolder : MethodName := ⟨RX4, "removeFolder", "(II)I"⟩
abbrev cX4_isRefusedBoth : ByteArray := prog_6_method_52_code
def yX4_isRefusedBoth : MethodName := ⟨RX4, "isRefusedBoth", "(IIII)Z"⟩
abbrev cX4_renameHinders : ByteArray := prog_6_method_53_code
def yX4_renameHinders : MethodName := ⟨RX4, "renameHinders", "(IIII)I"⟩
abbrev cX4_rename : ByteArray := prog_6_method_54_code
def yX4_rename : MethodName := ⟨RX4, "rename", "(IIII)I"⟩
abbrev cX4_exchange : ByteArray := prog_6_method_55_code
def yX4_exchange : MethodName := ⟨RX4, "exchange", "(IIII)I"⟩
abbrev cX4_write : ByteArray := prog_6_method_56_code
def yX4_write : MethodName := ⟨RX4, "write", "(III)I"⟩
abbrev cX4_truncate : ByteArray := prog_6_method_57_code
def yX4_truncate : MethodName := ⟨RX4, "truncate", "(II)I"⟩
abbrev cX4_isRefusedAt : ByteArray := prog_6_method_58_code
def yX4_isRefusedAt : MethodName := ⟨RX4, "isRefusedAt", "(III)Z"⟩
abbrev cX4_punch : ByteArray := prog_6_method_59_code
def yX4_punch : MethodName := ⟨RX4, "punch", "(II)I"⟩
abbrev cX4_share : ByteArray := prog_6_method_60_code
def yX4_share : MethodName := ⟨RX4, "share", "(IIII)I"⟩
abbrev cX4_setOwner : ByteArray := prog_6_method_61_code
def yX4_setOwner : MethodName := ⟨RX4, "setOwner", "(II)I"⟩
abbrev cX4_isRefusedUser : ByteArray := prog_6_method_62_code
def yX4_isRefusedUser : MethodName := ⟨RX4, "isRefusedUser", "(I)Z"⟩
abbrev cX4_setQuota : ByteArray := prog_6_method_63_code
def yX4_setQuota : MethodName := ⟨RX4, "setQuota", "(II)I"⟩
abbrev cX4_isRefusedNode : ByteArray := prog_6_method_64_code
def yX4_isRefusedNode : MethodName := ⟨RX4, "isRefusedNode", "(I)Z"⟩
abbrev cX4_isRefusedHandle : ByteArray := prog_6_method_65_code
def yX4_isRefusedHandle : MethodName := ⟨RX4, "isRefusedHandle", "(I)Z"⟩
abbrev cX4_open : ByteArray := prog_6_method_66_code
def yX4_open : MethodName := ⟨RX4, "open", "(I)I"⟩
abbrev cX4_close : ByteArray := prog_6_method_67_code
def yX4_close : MethodName := ⟨RX4, "close", "(I)I"⟩
abbrev cX4_seek : ByteArray := prog_6_method_68_code
def yX4_seek : MethodName := ⟨RX4, "seek", "(II)I"⟩
abbrev cX4_read : ByteArray := prog_6_method_69_code
def yX4_read : MethodName := ⟨RX4, "read", "(II)I"⟩
abbrev cX4_isRefusedRow : ByteArray := prog_6_method_70_code
def yX4_isRefusedRow : MethodName := ⟨RX4, "isRefusedRow", "(III)Z"⟩
abbrev cX4_hindering : ByteArray := prog_6_method_71_code
def yX4_hindering : MethodName := ⟨RX4, "hindering", "(IIIZ)I"⟩
abbrev cX4_lock : ByteArray := prog_6_method_72_code
def yX4_lock : MethodName := ⟨RX4, "lock", "(IIIZ)Z"⟩
abbrev cX4_unlock : ByteArray := prog_6_method_73_code
def yX4_unlock : MethodName := ⟨RX4, "unlock", "(III)I"⟩
abbrev cX4_whoHinders : ByteArray := prog_6_method_74_code
def yX4_whoHinders : MethodName := ⟨RX4, "whoHinders", "(IIIZ)I"⟩
abbrev cX4_rows : ByteArray := prog_6_method_75_code
def yX4_rows : MethodName := ⟨RX4, "rows", "(I)I"⟩
abbrev cX4_lockRows : ByteArray := prog_6_method_76_code
def yX4_lockRows : MethodName := ⟨RX4, "lockRows", "(I)I"⟩
abbrev cX4_lockAt : ByteArray := prog_6_method_77_code
def yX4_lockAt : MethodName := ⟨RX4, "lockAt", "(II)I"⟩
abbrev cX4_nodeOf : ByteArray := prog_6_method_78_code
def yX4_nodeOf : MethodName := ⟨RX4, "nodeOf", "(I)I"⟩
abbrev cX4_positionOf : ByteArray := prog_6_method_79_code
def yX4_positionOf : MethodName := ⟨RX4, "positionOf", "(I)I"⟩
abbrev cX4_opened : ByteArray := prog_6_method_80_code
def yX4_opened : MethodName := ⟨RX4, "opened", "()I"⟩
abbrev cX4_handles : ByteArray := prog_6_method_81_code
def yX4_handles : MethodName := ⟨RX4, "handles", "()I"⟩
abbrev cX4_sync : ByteArray := prog_6_method_82_code
def yX4_sync : MethodName := ⟨RX4, "sync", "()Z"⟩
abbrev cX4_flush : ByteArray := prog_6_method_83_code
def yX4_flush : MethodName := ⟨RX4, "flush", "()Z"⟩
abbrev cX4_writeBack : ByteArray := prog_6_method_84_code
def yX4_writeBack : MethodName := ⟨RX4, "writeBack", "(II)V"⟩
abbrev cX4_cut : ByteArray := prog_6_method_85_code
def yX4_cut : MethodName := ⟨RX4, "cut", "()V"⟩
abbrev cX4_fail : ByteArray := prog_6_method_86_code
def yX4_fail : MethodName := ⟨RX4, "fail", "(III)V"⟩
abbrev cX4_mount : ByteArray := prog_6_method_87_code
def yX4_mount : MethodName := ⟨RX4, "mount", "()I"⟩
abbrev cX4_isDown : ByteArray := prog_6_method_88_code
def yX4_isDown : MethodName := ⟨RX4, "isDown", "()Z"⟩
abbrev cX4_mounts : ByteArray := prog_6_method_89_code
def yX4_mounts : MethodName := ⟨RX4, "mounts", "()I"⟩
abbrev cX4_waiting : ByteArray := prog_6_method_90_code
def yX4_waiting : MethodName := ⟨RX4, "waiting", "()I"⟩
abbrev cX4_changes : ByteArray := prog_6_method_91_code
def yX4_changes : MethodName := ⟨RX4, "changes", "()I"⟩
abbrev cX4_count : ByteArray := prog_6_method_92_code
def yX4_count : MethodName := ⟨RX4, "count", "()I"⟩
abbrev cX4_nodes : ByteArray := prog_6_method_93_code
def yX4_nodes : MethodName := ⟨RX4, "nodes", "()I"⟩
abbrev cX4_typeOf : ByteArray := prog_6_method_94_code
def yX4_typeOf : MethodName := ⟨RX4, "typeOf", "(I)I"⟩
abbrev cX4_linksOf : ByteArray := prog_6_method_95_code
def yX4_linksOf : MethodName := ⟨RX4, "linksOf", "(I)I"⟩
abbrev cX4_ownerOf : ByteArray := prog_6_method_96_code
def yX4_ownerOf : MethodName := ⟨RX4, "ownerOf", "(I)I"⟩
abbrev cX4_size : ByteArray := prog_6_method_97_code
def yX4_size : MethodName := ⟨RX4, "size", "(I)I"⟩
abbrev cX4_sizeOf : ByteArray := prog_6_method_98_code
def yX4_sizeOf : MethodName := ⟨RX4, "sizeOf", "(I)I"⟩
abbrev cX4_blocksOf : ByteArray := prog_6_method_99_code
def yX4_blocksOf : MethodName := ⟨RX4, "blocksOf", "(I)I"⟩
abbrev cX4_shared : ByteArray := prog_6_method_100_code
def yX4_shared : MethodName := ⟨RX4, "shared", "(I)I"⟩
abbrev cX4_sharedOf : ByteArray := prog_6_method_101_code
def yX4_sharedOf : MethodName := ⟨RX4, "sharedOf", "(I)I"⟩
abbrev cX4_byteAt : ByteArray := prog_6_method_102_code
def yX4_byteAt : MethodName := ⟨RX4, "byteAt", "(II)I"⟩
abbrev cX4_isHole : ByteArray := prog_6_method_103_code
def yX4_isHole : MethodName := ⟨RX4, "isHole", "(II)Z"⟩
abbrev cX4_next : ByteArray := prog_6_method_104_code
def yX4_next : MethodName := ⟨RX4, "next", "(IIZ)I"⟩
abbrev cX4_nextData : ByteArray := prog_6_method_105_code
def yX4_nextData : MethodName := ⟨RX4, "nextData", "(II)I"⟩
abbrev cX4_nextHole : ByteArray := prog_6_method_106_code
def yX4_nextHole : MethodName := ⟨RX4, "nextHole", "(II)I"⟩
abbrev cX4_sameBytes : ByteArray := prog_6_method_107_code
def yX4_sameBytes : MethodName := ⟨RX4, "sameBytes", "(II)Z"⟩
abbrev cX4_lookup : ByteArray := prog_6_method_108_code
def yX4_lookup : MethodName := ⟨RX4, "lookup", "(II)I"⟩
abbrev cX4_step : ByteArray := prog_6_method_109_code
def yX4_step : MethodName := ⟨RX4, "step", "(II)I"⟩
abbrev cX4_found : ByteArray := prog_6_method_110_code
def yX4_found : MethodName := ⟨RX4, "found", "(II)I"⟩
abbrev cX4_follows : ByteArray := prog_6_method_111_code
def yX4_follows : MethodName := ⟨RX4, "follows", "(II)I"⟩
abbrev cX4_follow : ByteArray := prog_6_method_112_code
def yX4_follow : MethodName := ⟨RX4, "follow", "(II)I"⟩
abbrev cX4_nameAt : ByteArray := prog_6_method_113_code
def yX4_nameAt : MethodName := ⟨RX4, "nameAt", "(II)I"⟩
abbrev cX4_parentTold : ByteArray := prog_6_method_114_code
def yX4_parentTold : MethodName := ⟨RX4, "parentTold", "(I)I"⟩
abbrev cX4_parentOf : ByteArray := prog_6_method_115_code
def yX4_parentOf : MethodName := ⟨RX4, "parentOf", "(I)I"⟩
abbrev cX4_depth : ByteArray := prog_6_method_116_code
def yX4_depth : MethodName := ⟨RX4, "depth", "(I)I"⟩
abbrev cX4_depthOf : ByteArray := prog_6_method_117_code
def yX4_depthOf : MethodName := ⟨RX4, "depthOf", "(I)I"⟩
abbrev cX4_isOrphan : ByteArray := prog_6_method_118_code
def yX4_isOrphan : MethodName := ⟨RX4, "isOrphan", "(I)Z"⟩
abbrev cX4_under : ByteArray := prog_6_method_119_code
def yX4_under : MethodName := ⟨RX4, "under", "(I)[Z"⟩
abbrev cX4_blocksIn : ByteArray := prog_6_method_120_code
def yX4_blocksIn : MethodName := ⟨RX4, "blocksIn", "(I)I"⟩
abbrev cX4_blocksUnder : ByteArray := prog_6_method_121_code
def yX4_blocksUnder : MethodName := ⟨RX4, "blocksUnder", "(I)I"⟩
abbrev cX4_freed : ByteArray := prog_6_method_122_code
def yX4_freed : MethodName := ⟨RX4, "freed", "(I)I"⟩
abbrev cX4_wouldFree : ByteArray := prog_6_method_123_code
def yX4_wouldFree : MethodName := ⟨RX4, "wouldFree", "(I)I"⟩
abbrev cX4_used_ : ByteArray := prog_6_method_124_code
def yX4_used_ : MethodName := ⟨RX4, "used", "()I"⟩
abbrev cX4_usedBy_ : ByteArray := prog_6_method_125_code
def yX4_usedBy_ : MethodName := ⟨RX4, "usedBy", "(I)I"⟩
abbrev cX4_quotaOf : ByteArray := prog_6_method_126_code
def yX4_quotaOf : MethodName := ⟨RX4, "quotaOf", "(I)I"⟩
abbrev cX4_greatest : ByteArray := prog_6_method_127_code
def yX4_greatest : MethodName := ⟨RX4, "greatest", "()I"⟩
abbrev cX4_greatestFile : ByteArray := prog_6_method_128_code
def yX4_greatestFile : MethodName := ⟨RX4, "greatestFile", "()I"⟩
abbrev cX4_meanSize : ByteArray := prog_6_method_129_code
def yX4_meanSize : MethodName := ⟨RX4, "meanSize", "()D"⟩
abbrev cX4_flaws : ByteArray := prog_6_method_130_code
def yX4_flaws : MethodName := ⟨RX4, "flaws", "()I"⟩
abbrev cX4_add : ByteArray := prog_6_method_131_code
def yX4_add : MethodName := ⟨RX4, "add", "(J)V"⟩
abbrev cX4_addNode : ByteArray := prog_6_method_132_code
def yX4_addNode : MethodName := ⟨RX4, "addNode", "(I)V"⟩
abbrev cX4_digest : ByteArray := prog_6_method_133_code
def yX4_digest : MethodName := ⟨RX4, "digest", "()J"⟩
theorem dX4_init_0 : decode cX4_init 0 = .ok (.aload_n 0, 1) := by decide +kernel
theorem dX4_init_1 : decode cX4_init 1 = .ok (.invokespecial 3, 3) := by decide +kernel
theorem dX4_init_4 : decode cX4_init 4 = .ok (.aload_n 0, 1) := by decide +kernel
theorem dX4_init_5 : decode cX4_init 5 = .ok (.sipush 4805, 3) := by decide +kernel
theorem dX4_init_8 : decode cX4_init 8 = .ok (.newarray .int, 2) := by decide +kernel
theorem dX4_init_10 : decode cX4_init 10 = .ok (.putfield 9, 3) := by decide +kernel
theorem dX4_init_13 : decode cX4_init 13 = .ok (.aload_n 0, 1) := by decide +kernel
theorem dX4_init_14 : decode cX4_init 14 = .ok (.sipush 4805, 3) := by decide +kernel
theorem dX4_init_17 : decode cX4_init 17 = .ok (.newarray .int, 2) := by decide +kernel
theorem dX4_init_19 : decode cX4_init 19 = .ok (.putfield 13, 3) := by decide +kernel
theorem dX4_init_22 : decode cX4_init 22 = .ok (.aload_n 0, 1) := by decide +kernel
theorem dX4_init_23 : decode cX4_init 23 = .ok (.sipush 4805, 3) := by decide +kernel
theorem dX4_init_26 : decode cX4_init 26 = .ok (.newarray .int, 2) := by decide +kernel
theorem dX4_init_28 : decode cX4_init 28 = .ok (.putfield 16, 3) := by decide +kernel
theorem dX4_init_31 : decode cX4_init 31 = .ok (.aload_n 0, 1) := by decide +kernel
theorem dX4_init_32 : decode cX4_init 32 = .ok (.bipush 6, 2) := by decide +kernel
theorem dX4_init_34 : decode cX4_init 34 = .ok (.newarray .int, 2) := by decide +kernel
theorem dX4_init_36 : decode cX4_init 36 = .ok (.putfield 19, 3) := by decide +kernel
theorem dX4_init_39 : decode cX4_init 39 = .ok (.aload_n 0, 1) := by decide +kernel
theorem dX4_init_40 : decode cX4_init 40 = .ok (.bipush 6, 2) := by decide +kernel
theorem dX4_init_42 : decode cX4_init 42 = .ok (.newarray .int, 2) := by decide +kernel
theorem dX4_init_44 : decode cX4_init 44 = .ok (.putfield 22, 3) := by decide +kernel
theorem dX4_init_47 : decode cX4_init 47 = .ok (.aload_n 0, 1) := by decide +kernel
theorem dX4_init_48 : decode cX4_init 48 = .ok (.sipush 1920, 3) := by decide +kernel
theorem dX4_init_51 : decode cX4_init 51 = .ok (.newarray .int, 2) := by decide +kernel
theorem dX4_init_53 : decode cX4_init 53 = .ok (.putfield 25, 3) := by decide +kernel
theorem dX4_init_56 : decode cX4_init 56 = .ok (.aload_n 0, 1) := by decide +kernel
theorem dX4_init_57 : decode cX4_init 57 = .ok (.iconst (-1), 1) := by decide +kernel
theorem dX4_init_58 : decode cX4_init 58 = .ok (.putfield 28, 3) := by decide +kernel
theorem dX4_init_61 : decode cX4_init 61 = .ok (.aload_n 0, 1) := by decide +kernel
theorem dX4_init_62 : decode cX4_init 62 = .ok (.getfield 9, 3) := by decide +kernel
theorem dX4_init_65 : decode cX4_init 65 = .ok (.iconst 0, 1) := by decide +kernel
theorem dX4_init_66 : decode cX4_init 66 = .ok (.iconst 2, 1) := by decide +kernel
theorem dX4_init_67 : decode cX4_init 67 = .ok (.iastore, 1) := by decide +kernel
theorem dX4_init_68 : decode cX4_init 68 = .ok (.iconst 0, 1) := by decide +kernel
theorem dX4_init_69 : decode cX4_init 69 = .ok (.istore_n 1, 1) := by decide +kernel
theorem dX4_init_70 : decode cX4_init 70 = .ok (.iload_n 1, 1) := by decide +kernel
theorem dX4_init_71 : decode cX4_init 71 = .ok (.iconst 4, 1) := by decide +kernel
theorem dX4_init_72 : decode cX4_init 72 = .ok (.if_icmp .ge 21, 3) := by decide +kernel
theorem dX4_init_75 : decode cX4_init 75 = .ok (.aload_n 0, 1) := by decide +kernel
theorem dX4_init_76 : decode cX4_init 76 = .ok (.getfield 9, 3) := by decide +kernel
theorem dX4_init_79 : decode cX4_init 79 = .ok (.sipush 1600, 3) := by decide +kernel
theorem dX4_init_82 : decode cX4_init 82 = .ok (.iload_n 1, 1) := by decide +kernel
theorem dX4_init_83 : decode cX4_init 83 = .ok (.iadd, 1) := by decide +kernel
theorem dX4_init_84 : decode cX4_init 84 = .ok (.bipush 120, 2) := by decide +kernel
theorem dX4_init_86 : decode cX4_init 86 = .ok (.iastore, 1) := by decide +kernel
theorem dX4_init_87 : decode cX4_init 87 = .ok (.iinc 1 1, 3) := by decide +kernel
theorem dX4_init_90 : decode cX4_init 90 = .ok (.goto (-20), 3) := by decide +kernel
theorem dX4_init_93 : decode cX4_init 93 = .ok (.aload_n 0, 1) := by decide +kernel
theorem dX4_init_94 : decode cX4_init 94 = .ok (.getfield 9, 3) := by decide +kernel
theorem dX4_init_97 : decode cX4_init 97 = .ok (.iconst 0, 1) := by decide +kernel
theorem dX4_init_98 : decode cX4_init 98 = .ok (.aload_n 0, 1) := by decide +kernel
theorem dX4_init_99 : decode cX4_init 99 = .ok (.getfield 13, 3) := by decide +kernel
theorem dX4_init_102 : decode cX4_init 102 = .ok (.iconst 0, 1) := by decide +kernel
theorem dX4_init_103 : decode cX4_init 103 = .ok (.sipush 4805, 3) := by decide +kernel
theorem dX4_init_106 : decode cX4_init 106 = .ok (.invokestatic 32, 3) := by decide +kernel
theorem dX4_init_109 : decode cX4_init 109 = .ok (.iconst 0, 1) := by decide +kernel
theorem dX4_init_110 : decode cX4_init 110 = .ok (.istore_n 1, 1) := by decide +kernel
theorem dX4_init_111 : decode cX4_init 111 = .ok (.iload_n 1, 1) := by decide +kernel
theorem dX4_init_112 : decode cX4_init 112 = .ok (.bipush 6, 2) := by decide +kernel
theorem dX4_init_114 : decode cX4_init 114 = .ok (.if_icmp .ge 16, 3) := by decide +kernel
theorem dX4_init_117 : decode cX4_init 117 = .ok (.aload_n 0, 1) := by decide +kernel
theorem dX4_init_118 : decode cX4_init 118 = .ok (.getfield 19, 3) := by decide +kernel
theorem dX4_init_121 : decode cX4_init 121 = .ok (.iload_n 1, 1) := by decide +kernel
theorem dX4_init_122 : decode cX4_init 122 = .ok (.iconst (-1), 1) := by decide +kernel
theorem dX4_init_123 : decode cX4_init 123 = .ok (.iastore, 1) := by decide +kernel
theorem dX4_init_124 : decode cX4_init 124 = .ok (.iinc 1 1, 3) := by decide +kernel
theorem dX4_init_127 : decode cX4_init 127 = .ok (.goto (-16), 3) := by decide +kernel
theorem dX4_init_130 : decode cX4_init 130 = .ok (.return_, 1) := by decide +kernel
theorem dX4_thrown_0 : decode cX4_thrown 0 = .ok (.aload_n 0, 1) := by decide +kernel
theorem dX4_thrown_1 : decode cX4_thrown 1 = .ok (.getfield 38, 3) := by decide +kernel
theorem dX4_thrown_4 : decode cX4_thrown 4 = .ok (.ireturn, 1) := by decide +kernel
theorem dX4_refuse_0 : decode cX4_refuse 0 = .ok (.aload_n 0, 1) := by decide +kernel
theorem dX4_refuse_1 : decode cX4_refuse 1 = .ok (.iload_n 1, 1) := by decide +kernel
theorem dX4_refuse_2 : decode cX4_refuse 2 = .ok (.putfield 38, 3) := by decide +kernel
theorem dX4_refuse_5 : decode cX4_refuse 5 = .ok (.iconst 1, 1) := by decide +kernel
theorem dX4_refuse_6 : decode cX4_refuse 6 = .ok (.ireturn, 1) := by decide +kernel
theorem dX4_isOff_0 : decode cX4_isOff 0 = .ok (.aload_n 0, 1) := by decide +kernel
theorem dX4_isOff_1 : decode cX4_isOff 1 = .ok (.iconst 0, 1) := by decide +kernel
theorem dX4_isOff_2 : decode cX4_isOff 2 = .ok (.putfield 38, 3) := by decide +kernel
theorem dX4_isOff_5 : decode cX4_isOff 5 = .ok (.aload_n 0, 1) := by decide +kernel
theorem dX4_isOff_6 : decode cX4_isOff 6 = .ok (.getfield 41, 3) := by decide +kernel
theorem dX4_isOff_9 : decode cX4_isOff 9 = .ok (.ifCond .eq 15, 3) := by decide +kernel
theorem dX4_isOff_12 : decode cX4_isOff 12 = .ok (.aload_n 0, 1) := by decide +kernel
theorem dX4_isOff_13 : decode cX4_isOff 13 = .ok (.iconst 1, 1) := by decide +kernel
theorem dX4_isOff_14 : decode cX4_isOff 14 = .ok (.invokevirtual 45, 3) := by decide +kernel
theorem dX4_isOff_17 : decode cX4_isOff 17 = .ok (.ifCond .eq 7, 3) := by decide +kernel
theorem dX4_isOff_20 : decode cX4_isOff 20 = .ok (.iconst 1, 1) := by decide +kernel
theorem dX4_isOff_21 : decode cX4_isOff 21 = .ok (.goto 4, 3) := by decide +kernel
theorem dX4_isOff_24 : decode cX4_isOff 24 = .ok (.iconst 0, 1) := by decide +kernel
theorem dX4_isOff_25 : decode cX4_isOff 25 = .ok (.ireturn, 1) := by decide +kernel
theorem dX4_isIn_0 : decode cX4_isIn 0 = .ok (.iload_n 0, 1) := by decide +kernel
theorem dX4_isIn_1 : decode cX4_isIn 1 = .ok (.iload_n 1, 1) := by decide +kernel
theorem dX4_isIn_2 : decode cX4_isIn 2 = .ok (.if_icmp .lt 12, 3) := by decide +kernel
theorem dX4_isIn_5 : decode cX4_isIn 5 = .ok (.iload_n 0, 1) := by decide +kernel
theorem dX4_isIn_6 : decode cX4_isIn 6 = .ok (.iload_n 2, 1) := by decide +kernel
theorem dX4_isIn_7 : decode cX4_isIn 7 = .ok (.if_icmp .gt 7, 3) := by decide +kernel
theorem dX4_isIn_10 : decode cX4_isIn 10 = .ok (.iconst 1, 1) := by decide +kernel
theorem dX4_isIn_11 : decode cX4_isIn 11 = .ok (.goto 4, 3) := by decide +kernel
theorem dX4_isIn_14 : decode cX4_isIn 14 = .ok (.iconst 0, 1) := by decide +kernel
theorem dX4_isIn_15 : decode cX4_isIn 15 = .ok (.ireturn, 1) := by decide +kernel
theorem dX4_isNode_0 : decode cX4_isNode 0 = .ok (.iload_n 1, 1) := by decide +kernel
theorem dX4_isNode_1 : decode cX4_isNode 1 = .ok (.iconst 0, 1) := by decide +kernel
theorem dX4_isNode_2 : decode cX4_isNode 2 = .ok (.bipush 31, 2) := by decide +kernel
theorem dX4_isNode_4 : decode cX4_isNode 4 = .ok (.invokestatic 49, 3) := by decide +kernel
theorem dX4_isNode_7 : decode cX4_isNode 7 = .ok (.ifCond .eq 18, 3) := by decide +kernel
theorem dX4_isNode_10 : decode cX4_isNode 10 = .ok (.aload_n 0, 1) := by decide +kernel
theorem dX4_isNode_11 : decode cX4_isNode 11 = .ok (.getfield 9, 3) := by decide +kernel
theorem dX4_isNode_14 : decode cX4_isNode 14 = .ok (.iconst 0, 1) := by decide +kernel
theorem dX4_isNode_15 : decode cX4_isNode 15 = .ok (.iload_n 1, 1) := by decide +kernel
theorem dX4_isNode_16 : decode cX4_isNode 16 = .ok (.iadd, 1) := by decide +kernel
theorem dX4_isNode_17 : decode cX4_isNode 17 = .ok (.iaload, 1) := by decide +kernel
theorem dX4_isNode_18 : decode cX4_isNode 18 = .ok (.ifCond .eq 7, 3) := by decide +kernel
theorem dX4_isNode_21 : decode cX4_isNode 21 = .ok (.iconst 1, 1) := by decide +kernel
theorem dX4_isNode_22 : decode cX4_isNode 22 = .ok (.goto 4, 3) := by decide +kernel
theorem dX4_isNode_25 : decode cX4_isNode 25 = .ok (.iconst 0, 1) := by decide +kernel
theorem dX4_isNode_26 : decode cX4_isNode 26 = .ok (.ireturn, 1) := by decide +kernel
theorem dX4_isOpen_0 : decode cX4_isOpen 0 = .ok (.iload_n 1, 1) := by decide +kernel
theorem dX4_isOpen_1 : decode cX4_isOpen 1 = .ok (.iconst 0, 1) := by decide +kernel
theorem dX4_isOpen_2 : decode cX4_isOpen 2 = .ok (.iconst 5, 1) := by decide +kernel
theorem dX4_isOpen_3 : decode cX4_isOpen 3 = .ok (.invokestatic 49, 3) := by decide +kernel
theorem dX4_isOpen_6 : decode cX4_isOpen 6 = .ok (.ifCond .eq 16, 3) := by decide +kernel
theorem dX4_isOpen_9 : decode cX4_isOpen 9 = .ok (.aload_n 0, 1) := by decide +kernel
theorem dX4_isOpen_10 : decode cX4_isOpen 10 = .ok (.getfield 19, 3) := by decide +kernel
theorem dX4_isOpen_13 : decode cX4_isOpen 13 = .ok (.iload_n 1, 1) := by decide +kernel
theorem dX4_isOpen_14 : decode cX4_isOpen 14 = .ok (.iaload, 1) := by decide +kernel
theorem dX4_isOpen_15 : decode cX4_isOpen 15 = .ok (.ifCond .lt 7, 3) := by decide +kernel
theorem dX4_isOpen_18 : decode cX4_isOpen 18 = .ok (.iconst 1, 1) := by decide +kernel
theorem dX4_isOpen_19 : decode cX4_isOpen 19 = .ok (.goto 4, 3) := by decide +kernel
theorem dX4_isOpen_22 : decode cX4_isOpen 22 = .ok (.iconst 0, 1) := by decide +kernel
theorem dX4_isOpen_23 : decode cX4_isOpen 23 = .ok (.ireturn, 1) := by decide +kernel
theorem dX4_is_0 : decode cX4_is 0 = .ok (.aload_n 0, 1) := by decide +kernel
theorem dX4_is_1 : decode cX4_is 1 = .ok (.iconst 0, 1) := by decide +kernel
theorem dX4_is_2 : decode cX4_is 2 = .ok (.iload_n 1, 1) := by decide +kernel
theorem dX4_is_3 : decode cX4_is 3 = .ok (.iadd, 1) := by decide +kernel
theorem dX4_is_4 : decode cX4_is 4 = .ok (.iaload, 1) := by decide +kernel
theorem dX4_is_5 : decode cX4_is 5 = .ok (.iload_n 2, 1) := by decide +kernel
theorem dX4_is_6 : decode cX4_is 6 = .ok (.if_icmp .ne 7, 3) := by decide +kernel
theorem dX4_is_9 : decode cX4_is 9 = .ok (.iconst 1, 1) := by decide +kernel
theorem dX4_is_10 : decode cX4_is 10 = .ok (.goto 4, 3) := by decide +kernel
theorem dX4_is_13 : decode cX4_is 13 = .ok (.iconst 0, 1) := by decide +kernel
theorem dX4_is_14 : decode cX4_is 14 = .ok (.ireturn, 1) := by decide +kernel
theorem dX4_entries_0 : decode cX4_entries 0 = .ok (.iconst 0, 1) := by decide +kernel
theorem dX4_entries_1 : decode cX4_entries 1 = .ok (.istore_n 2, 1) := by decide +kernel
theorem dX4_entries_2 : decode cX4_entries 2 = .ok (.iload_n 2, 1) := by decide +kernel
theorem dX4_entries_3 : decode cX4_entries 3 = .ok (.bipush 12, 2) := by decide +kernel
theorem dX4_entries_5 : decode cX4_entries 5 = .ok (.if_icmp .ge 24, 3) := by decide +kernel
theorem dX4_entries_8 : decode cX4_entries 8 = .ok (.aload_n 0, 1) := by decide +kernel
theorem dX4_entries_9 : decode cX4_entries 9 = .ok (.sipush 832, 3) := by decide +kernel
theorem dX4_entries_12 : decode cX4_entries 12 = .ok (.iload_n 1, 1) := by decide +kernel
theorem dX4_entries_13 : decode cX4_entries 13 = .ok (.bipush 12, 2) := by decide +kernel
theorem dX4_entries_15 : decode cX4_entries 15 = .ok (.imul, 1) := by decide +kernel
theorem dX4_entries_16 : decode cX4_entries 16 = .ok (.iadd, 1) := by decide +kernel
theorem dX4_entries_17 : decode cX4_entries 17 = .ok (.iload_n 2, 1) := by decide +kernel
theorem dX4_entries_18 : decode cX4_entries 18 = .ok (.iadd, 1) := by decide +kernel
theorem dX4_entries_19 : decode cX4_entries 19 = .ok (.iaload, 1) := by decide +kernel
theorem dX4_entries_20 : decode cX4_entries 20 = .ok (.ifCond .le 9, 3) := by decide +kernel
theorem dX4_entries_23 : decode cX4_entries 23 = .ok (.iinc 2 1, 3) := by decide +kernel
theorem dX4_entries_26 : decode cX4_entries 26 = .ok (.goto (-24), 3) := by decide +kernel
theorem dX4_entries_29 : decode cX4_entries 29 = .ok (.iload_n 2, 1) := by decide +kernel
theorem dX4_entries_30 : decode cX4_entries 30 = .ok (.ireturn, 1) := by decide +kernel
theorem dX4_where_0 : decode cX4_where 0 = .ok (.iconst 0, 1) := by decide +kernel
theorem dX4_where_1 : decode cX4_where 1 = .ok (.istore_n 3, 1) := by decide +kernel
theorem dX4_where_2 : decode cX4_where 2 = .ok (.iload_n 3, 1) := by decide +kernel
theorem dX4_where_3 : decode cX4_where 3 = .ok (.aload_n 0, 1) := by decide +kernel
theorem dX4_where_4 : decode cX4_where 4 = .ok (.iload_n 1, 1) := by decide +kernel
theorem dX4_where_5 : decode cX4_where 5 = .ok (.invokestatic 53, 3) := by decide +kernel
theorem dX4_where_8 : decode cX4_where 8 = .ok (.if_icmp .ge 32, 3) := by decide +kernel
theorem dX4_where_11 : decode cX4_where 11 = .ok (.aload_n 0, 1) := by decide +kernel
theorem dX4_where_12 : decode cX4_where 12 = .ok (.sipush 832, 3) := by decide +kernel
theorem dX4_where_15 : decode cX4_where 15 = .ok (.iload_n 1, 1) := by decide +kernel
theorem dX4_where_16 : decode cX4_where 16 = .ok (.bipush 12, 2) := by decide +kernel
theorem dX4_where_18 : decode cX4_where 18 = .ok (.imul, 1) := by decide +kernel
theorem dX4_where_19 : decode cX4_where 19 = .ok (.iadd, 1) := by decide +kernel
theorem dX4_where_20 : decode cX4_where 20 = .ok (.iload_n 3, 1) := by decide +kernel
theorem dX4_where_21 : decode cX4_where 21 = .ok (.iadd, 1) := by decide +kernel
theorem dX4_where_22 : decode cX4_where 22 = .ok (.iaload, 1) := by decide +kernel
theorem dX4_where_23 : decode cX4_where 23 = .ok (.iload_n 2, 1) := by decide +kernel
theorem dX4_where_24 : decode cX4_where 24 = .ok (.if_icmp .ne 10, 3) := by decide +kernel
theorem dX4_where_27 : decode cX4_where 27 = .ok (.iload_n 1, 1) := by decide +kernel
theorem dX4_where_28 : decode cX4_where 28 = .ok (.bipush 12, 2) := by decide +kernel
theorem dX4_where_30 : decode cX4_where 30 = .ok (.imul, 1) := by decide +kernel
theorem dX4_where_31 : decode cX4_where 31 = .ok (.iload_n 3, 1) := by decide +kernel
theorem dX4_where_32 : decode cX4_where 32 = .ok (.iadd, 1) := by decide +kernel
theorem dX4_where_33 : decode cX4_where 33 = .ok (.ireturn, 1) := by decide +kernel
theorem dX4_where_34 : decode cX4_where 34 = .ok (.iinc 3 1, 3) := by decide +kernel
theorem dX4_where_37 : decode cX4_where 37 = .ok (.goto (-35), 3) := by decide +kernel
theorem dX4_where_40 : decode cX4_where 40 = .ok (.iconst (-1), 1) := by decide +kernel
theorem dX4_where_41 : decode cX4_where 41 = .ok (.ireturn, 1) := by decide +kernel
theorem dX4_nodeAt_0 : decode cX4_nodeAt 0 = .ok (.aload_n 0, 1) := by decide +kernel
theorem dX4_nodeAt_1 : decode cX4_nodeAt 1 = .ok (.iload_n 1, 1) := by decide +kernel
theorem dX4_nodeAt_2 : decode cX4_nodeAt 2 = .ok (.iload_n 2, 1) := by decide +kernel
theorem dX4_nodeAt_3 : decode cX4_nodeAt 3 = .ok (.invokestatic 57, 3) := by decide +kernel
theorem dX4_nodeAt_6 : decode cX4_nodeAt 6 = .ok (.istore_n 3, 1) := by decide +kernel
theorem dX4_nodeAt_7 : decode cX4_nodeAt 7 = .ok (.iload_n 3, 1) := by decide +kernel
theorem dX4_nodeAt_8 : decode cX4_nodeAt 8 = .ok (.ifCond .ge 7, 3) := by decide +kernel
theorem dX4_nodeAt_11 : decode cX4_nodeAt 11 = .ok (.iconst (-1), 1) := by decide +kernel
theorem dX4_nodeAt_12 : decode cX4_nodeAt 12 = .ok (.goto 10, 3) := by decide +kernel
theorem dX4_nodeAt_15 : decode cX4_nodeAt 15 = .ok (.aload_n 0, 1) := by decide +kernel
theorem dX4_nodeAt_16 : decode cX4_nodeAt 16 = .ok (.sipush 1216, 3) := by decide +kernel
theorem dX4_nodeAt_19 : decode cX4_nodeAt 19 = .ok (.iload_n 3, 1) := by decide +kernel
theorem dX4_nodeAt_20 : decode cX4_nodeAt 20 = .ok (.iadd, 1) := by decide +kernel
theorem dX4_nodeAt_21 : decode cX4_nodeAt 21 = .ok (.iaload, 1) := by decide +kernel
theorem dX4_nodeAt_22 : decode cX4_nodeAt 22 = .ok (.ireturn, 1) := by decide +kernel
theorem dX4_put_0 : decode cX4_put 0 = .ok (.aload_n 0, 1) := by decide +kernel
theorem dX4_put_1 : decode cX4_put 1 = .ok (.iload_n 1, 1) := by decide +kernel
theorem dX4_put_2 : decode cX4_put 2 = .ok (.invokestatic 53, 3) := by decide +kernel
theorem dX4_put_5 : decode cX4_put 5 = .ok (.istore 4, 2) := by decide +kernel
theorem dX4_put_7 : decode cX4_put 7 = .ok (.iload 4, 2) := by decide +kernel
theorem dX4_put_9 : decode cX4_put 9 = .ok (.ifCond .le 84, 3) := by decide +kernel
theorem dX4_put_12 : decode cX4_put 12 = .ok (.aload_n 0, 1) := by decide +kernel
theorem dX4_put_13 : decode cX4_put 13 = .ok (.sipush 832, 3) := by decide +kernel
theorem dX4_put_16 : decode cX4_put 16 = .ok (.iload_n 1, 1) := by decide +kernel
theorem dX4_put_17 : decode cX4_put 17 = .ok (.bipush 12, 2) := by decide +kernel
theorem dX4_put_19 : decode cX4_put 19 = .ok (.imul, 1) := by decide +kernel
theorem dX4_put_20 : decode cX4_put 20 = .ok (.iadd, 1) := by decide +kernel
theorem dX4_put_21 : decode cX4_put 21 = .ok (.iload 4, 2) := by decide +kernel
theorem dX4_put_23 : decode cX4_put 23 = .ok (.iadd, 1) := by decide +kernel
theorem dX4_put_24 : decode cX4_put 24 = .ok (.iconst 1, 1) := by decide +kernel
theorem dX4_put_25 : decode cX4_put 25 = .ok (.isub, 1) := by decide +kernel
theorem dX4_put_26 : decode cX4_put 26 = .ok (.iaload, 1) := by decide +kernel
theorem dX4_put_27 : decode cX4_put 27 = .ok (.iload_n 2, 1) := by decide +kernel
theorem dX4_put_28 : decode cX4_put 28 = .ok (.if_icmp .le 65, 3) := by decide +kernel
theorem dX4_put_31 : decode cX4_put 31 = .ok (.aload_n 0, 1) := by decide +kernel
theorem dX4_put_32 : decode cX4_put 32 = .ok (.sipush 832, 3) := by decide +kernel
theorem dX4_put_35 : decode cX4_put 35 = .ok (.iload_n 1, 1) := by decide +kernel
theorem dX4_put_36 : decode cX4_put 36 = .ok (.bipush 12, 2) := by decide +kernel
theorem dX4_put_38 : decode cX4_put 38 = .ok (.imul, 1) := by decide +kernel
theorem dX4_put_39 : decode cX4_put 39 = .ok (.iadd, 1) := by decide +kernel
theorem dX4_put_40 : decode cX4_put 40 = .ok (.iload 4, 2) := by decide +kernel
theorem dX4_put_42 : decode cX4_put 42 = .ok (.iadd, 1) := by decide +kernel
theorem dX4_put_43 : decode cX4_put 43 = .ok (.aload_n 0, 1) := by decide +kernel
theorem dX4_put_44 : decode cX4_put 44 = .ok (.sipush 832, 3) := by decide +kernel
theorem dX4_put_47 : decode cX4_put 47 = .ok (.iload_n 1, 1) := by decide +kernel
theorem dX4_put_48 : decode cX4_put 48 = .ok (.bipush 12, 2) := by decide +kernel
theorem dX4_put_50 : decode cX4_put 50 = .ok (.imul, 1) := by decide +kernel
theorem dX4_put_51 : decode cX4_put 51 = .ok (.iadd, 1) := by decide +kernel
theorem dX4_put_52 : decode cX4_put 52 = .ok (.iload 4, 2) := by decide +kernel
theorem dX4_put_54 : decode cX4_put 54 = .ok (.iadd, 1) := by decide +kernel
theorem dX4_put_55 : decode cX4_put 55 = .ok (.iconst 1, 1) := by decide +kernel
theorem dX4_put_56 : decode cX4_put 56 = .ok (.isub, 1) := by decide +kernel
theorem dX4_put_57 : decode cX4_put 57 = .ok (.iaload, 1) := by decide +kernel
theorem dX4_put_58 : decode cX4_put 58 = .ok (.iastore, 1) := by decide +kernel
theorem dX4_put_59 : decode cX4_put 59 = .ok (.aload_n 0, 1) := by decide +kernel
theorem dX4_put_60 : decode cX4_put 60 = .ok (.sipush 1216, 3) := by decide +kernel
theorem dX4_put_63 : decode cX4_put 63 = .ok (.iload_n 1, 1) := by decide +kernel
theorem dX4_put_64 : decode cX4_put 64 = .ok (.bipush 12, 2) := by decide +kernel
theorem dX4_put_66 : decode cX4_put 66 = .ok (.imul, 1) := by decide +kernel
theorem dX4_put_67 : decode cX4_put 67 = .ok (.iadd, 1) := by decide +kernel
theorem dX4_put_68 : decode cX4_put 68 = .ok (.iload 4, 2) := by decide +kernel
theorem dX4_put_70 : decode cX4_put 70 = .ok (.iadd, 1) := by decide +kernel
theorem dX4_put_71 : decode cX4_put 71 = .ok (.aload_n 0, 1) := by decide +kernel
theorem dX4_put_72 : decode cX4_put 72 = .ok (.sipush 1216, 3) := by decide +kernel
theorem dX4_put_75 : decode cX4_put 75 = .ok (.iload_n 1, 1) := by decide +kernel
theorem dX4_put_76 : decode cX4_put 76 = .ok (.bipush 12, 2) := by decide +kernel
theorem dX4_put_78 : decode cX4_put 78 = .ok (.imul, 1) := by decide +kernel
theorem dX4_put_79 : decode cX4_put 79 = .ok (.iadd, 1) := by decide +kernel
theorem dX4_put_80 : decode cX4_put 80 = .ok (.iload 4, 2) := by decide +kernel
theorem dX4_put_82 : decode cX4_put 82 = .ok (.iadd, 1) := by decide +kernel
theorem dX4_put_83 : decode cX4_put 83 = .ok (.iconst 1, 1) := by decide +kernel
theorem dX4_put_84 : decode cX4_put 84 = .ok (.isub, 1) := by decide +kernel
theorem dX4_put_85 : decode cX4_put 85 = .ok (.iaload, 1) := by decide +kernel
theorem dX4_put_86 : decode cX4_put 86 = .ok (.iastore, 1) := by decide +kernel
theorem dX4_put_87 : decode cX4_put 87 = .ok (.iinc 4 (-1), 3) := by decide +kernel
theorem dX4_put_90 : decode cX4_put 90 = .ok (.goto (-83), 3) := by decide +kernel
theorem dX4_put_93 : decode cX4_put 93 = .ok (.aload_n 0, 1) := by decide +kernel
theorem dX4_put_94 : decode cX4_put 94 = .ok (.sipush 832, 3) := by decide +kernel
theorem dX4_put_97 : decode cX4_put 97 = .ok (.iload_n 1, 1) := by decide +kernel
theorem dX4_put_98 : decode cX4_put 98 = .ok (.bipush 12, 2) := by decide +kernel
theorem dX4_put_100 : decode cX4_put 100 = .ok (.imul, 1) := by decide +kernel
theorem dX4_put_101 : decode cX4_put 101 = .ok (.iadd, 1) := by decide +kernel
theorem dX4_put_102 : decode cX4_put 102 = .ok (.iload 4, 2) := by decide +kernel
theorem dX4_put_104 : decode cX4_put 104 = .ok (.iadd, 1) := by decide +kernel
theorem dX4_put_105 : decode cX4_put 105 = .ok (.iload_n 2, 1) := by decide +kernel
theorem dX4_put_106 : decode cX4_put 106 = .ok (.iastore, 1) := by decide +kernel
theorem dX4_put_107 : decode cX4_put 107 = .ok (.aload_n 0, 1) := by decide +kernel
theorem dX4_put_108 : decode cX4_put 108 = .ok (.sipush 1216, 3) := by decide +kernel
theorem dX4_put_111 : decode cX4_put 111 = .ok (.iload_n 1, 1) := by decide +kernel
theorem dX4_put_112 : decode cX4_put 112 = .ok (.bipush 12, 2) := by decide +kernel
theorem dX4_put_114 : decode cX4_put 114 = .ok (.imul, 1) := by decide +kernel
theorem dX4_put_115 : decode cX4_put 115 = .ok (.iadd, 1) := by decide +kernel
theorem dX4_put_116 : decode cX4_put 116 = .ok (.iload 4, 2) := by decide +kernel
theorem dX4_put_118 : decode cX4_put 118 = .ok (.iadd, 1) := by decide +kernel
theorem dX4_put_119 : decode cX4_put 119 = .ok (.iload_n 3, 1) := by decide +kernel
theorem dX4_put_120 : decode cX4_put 120 = .ok (.iastore, 1) := by decide +kernel
theorem dX4_put_121 : decode cX4_put 121 = .ok (.return_, 1) := by decide +kernel
theorem dX4_takeAway_0 : decode cX4_takeAway 0 = .ok (.aload_n 0, 1) := by decide +kernel
theorem dX4_takeAway_1 : decode cX4_takeAway 1 = .ok (.iload_n 1, 1) := by decide +kernel
theorem dX4_takeAway_2 : decode cX4_takeAway 2 = .ok (.iload_n 2, 1) := by decide +kernel
theorem dX4_takeAway_3 : decode cX4_takeAway 3 = .ok (.invokestatic 57, 3) := by decide +kernel
theorem dX4_takeAway_6 : decode cX4_takeAway 6 = .ok (.iload_n 1, 1) := by decide +kernel
theorem dX4_takeAway_7 : decode cX4_takeAway 7 = .ok (.bipush 12, 2) := by decide +kernel
theorem dX4_takeAway_9 : decode cX4_takeAway 9 = .ok (.imul, 1) := by decide +kernel
theorem dX4_takeAway_10 : decode cX4_takeAway 10 = .ok (.isub, 1) := by decide +kernel
theorem dX4_takeAway_11 : decode cX4_takeAway 11 = .ok (.istore_n 3, 1) := by decide +kernel
theorem dX4_takeAway_12 : decode cX4_takeAway 12 = .ok (.iload_n 3, 1) := by decide +kernel
theorem dX4_takeAway_13 : decode cX4_takeAway 13 = .ok (.istore 4, 2) := by decide +kernel
theorem dX4_takeAway_15 : decode cX4_takeAway 15 = .ok (.iload 4, 2) := by decide +kernel
theorem dX4_takeAway_17 : decode cX4_takeAway 17 = .ok (.bipush 12, 2) := by decide +kernel
theorem dX4_takeAway_19 : decode cX4_takeAway 19 = .ok (.if_icmp .ge 97, 3) := by decide +kernel
theorem dX4_takeAway_22 : decode cX4_takeAway 22 = .ok (.iload 4, 2) := by decide +kernel
theorem dX4_takeAway_24 : decode cX4_takeAway 24 = .ok (.bipush 11, 2) := by decide +kernel
theorem dX4_takeAway_26 : decode cX4_takeAway 26 = .ok (.if_icmp .ne 7, 3) := by decide +kernel
theorem dX4_takeAway_29 : decode cX4_takeAway 29 = .ok (.iconst 1, 1) := by decide +kernel
theorem dX4_takeAway_30 : decode cX4_takeAway 30 = .ok (.goto 4, 3) := by decide +kernel
theorem dX4_takeAway_33 : decode cX4_takeAway 33 = .ok (.iconst 0, 1) := by decide +kernel
theorem dX4_takeAway_34 : decode cX4_takeAway 34 = .ok (.istore 5, 2) := by decide +kernel
theorem dX4_takeAway_36 : decode cX4_takeAway 36 = .ok (.aload_n 0, 1) := by decide +kernel
theorem dX4_takeAway_37 : decode cX4_takeAway 37 = .ok (.sipush 832, 3) := by decide +kernel
theorem dX4_takeAway_40 : decode cX4_takeAway 40 = .ok (.iload_n 1, 1) := by decide +kernel
theorem dX4_takeAway_41 : decode cX4_takeAway 41 = .ok (.bipush 12, 2) := by decide +kernel
theorem dX4_takeAway_43 : decode cX4_takeAway 43 = .ok (.imul, 1) := by decide +kernel
theorem dX4_takeAway_44 : decode cX4_takeAway 44 = .ok (.iadd, 1) := by decide +kernel
theorem dX4_takeAway_45 : decode cX4_takeAway 45 = .ok (.iload 4, 2) := by decide +kernel
theorem dX4_takeAway_47 : decode cX4_takeAway 47 = .ok (.iadd, 1) := by decide +kernel
theorem dX4_takeAway_48 : decode cX4_takeAway 48 = .ok (.iload 5, 2) := by decide +kernel
theorem dX4_takeAway_50 : decode cX4_takeAway 50 = .ok (.ifCond .eq 7, 3) := by decide +kernel
theorem dX4_takeAway_53 : decode cX4_takeAway 53 = .ok (.iconst 0, 1) := by decide +kernel
theorem dX4_takeAway_54 : decode cX4_takeAway 54 = .ok (.goto 18, 3) := by decide +kernel
theorem dX4_takeAway_57 : decode cX4_takeAway 57 = .ok (.aload_n 0, 1) := by decide +kernel
theorem dX4_takeAway_58 : decode cX4_takeAway 58 = .ok (.sipush 832, 3) := by decide +kernel
theorem dX4_takeAway_61 : decode cX4_takeAway 61 = .ok (.iload_n 1, 1) := by decide +kernel
theorem dX4_takeAway_62 : decode cX4_takeAway 62 = .ok (.bipush 12, 2) := by decide +kernel
theorem dX4_takeAway_64 : decode cX4_takeAway 64 = .ok (.imul, 1) := by decide +kernel
theorem dX4_takeAway_65 : decode cX4_takeAway 65 = .ok (.iadd, 1) := by decide +kernel
theorem dX4_takeAway_66 : decode cX4_takeAway 66 = .ok (.iload 4, 2) := by decide +kernel
theorem dX4_takeAway_68 : decode cX4_takeAway 68 = .ok (.iadd, 1) := by decide +kernel
theorem dX4_takeAway_69 : decode cX4_takeAway 69 = .ok (.iconst 1, 1) := by decide +kernel
theorem dX4_takeAway_70 : decode cX4_takeAway 70 = .ok (.iadd, 1) := by decide +kernel
theorem dX4_takeAway_71 : decode cX4_takeAway 71 = .ok (.iaload, 1) := by decide +kernel
theorem dX4_takeAway_72 : decode cX4_takeAway 72 = .ok (.iastore, 1) := by decide +kernel
theorem dX4_takeAway_73 : decode cX4_takeAway 73 = .ok (.aload_n 0, 1) := by decide +kernel
theorem dX4_takeAway_74 : decode cX4_takeAway 74 = .ok (.sipush 1216, 3) := by decide +kernel
theorem dX4_takeAway_77 : decode cX4_takeAway 77 = .ok (.iload_n 1, 1) := by decide +kernel
theorem dX4_takeAway_78 : decode cX4_takeAway 78 = .ok (.bipush 12, 2) := by decide +kernel
theorem dX4_takeAway_80 : decode cX4_takeAway 80 = .ok (.imul, 1) := by decide +kernel
theorem dX4_takeAway_81 : decode cX4_takeAway 81 = .ok (.iadd, 1) := by decide +kernel
theorem dX4_takeAway_82 : decode cX4_takeAway 82 = .ok (.iload 4, 2) := by decide +kernel
theorem dX4_takeAway_84 : decode cX4_takeAway 84 = .ok (.iadd, 1) := by decide +kernel
theorem dX4_takeAway_85 : decode cX4_takeAway 85 = .ok (.iload 5, 2) := by decide +kernel
theorem dX4_takeAway_87 : decode cX4_takeAway 87 = .ok (.ifCond .eq 7, 3) := by decide +kernel
theorem dX4_takeAway_90 : decode cX4_takeAway 90 = .ok (.iconst 0, 1) := by decide +kernel
theorem dX4_takeAway_91 : decode cX4_takeAway 91 = .ok (.goto 18, 3) := by decide +kernel
theorem dX4_takeAway_94 : decode cX4_takeAway 94 = .ok (.aload_n 0, 1) := by decide +kernel
theorem dX4_takeAway_95 : decode cX4_takeAway 95 = .ok (.sipush 1216, 3) := by decide +kernel
theorem dX4_takeAway_98 : decode cX4_takeAway 98 = .ok (.iload_n 1, 1) := by decide +kernel
theorem dX4_takeAway_99 : decode cX4_takeAway 99 = .ok (.bipush 12, 2) := by decide +kernel
theorem dX4_takeAway_101 : decode cX4_takeAway 101 = .ok (.imul, 1) := by decide +kernel
theorem dX4_takeAway_102 : decode cX4_takeAway 102 = .ok (.iadd, 1) := by decide +kernel
theorem dX4_takeAway_103 : decode cX4_takeAway 103 = .ok (.iload 4, 2) := by decide +kernel
theorem dX4_takeAway_105 : decode cX4_takeAway 105 = .ok (.iadd, 1) := by decide +kernel
theorem dX4_takeAway_106 : decode cX4_takeAway 106 = .ok (.iconst 1, 1) := by decide +kernel
theorem dX4_takeAway_107 : decode cX4_takeAway 107 = .ok (.iadd, 1) := by decide +kernel
theorem dX4_takeAway_108 : decode cX4_takeAway 108 = .ok (.iaload, 1) := by decide +kernel
theorem dX4_takeAway_109 : decode cX4_takeAway 109 = .ok (.iastore, 1) := by decide +kernel
theorem dX4_takeAway_110 : decode cX4_takeAway 110 = .ok (.iinc 4 1, 3) := by decide +kernel
theorem dX4_takeAway_113 : decode cX4_takeAway 113 = .ok (.goto (-98), 3) := by decide +kernel
theorem dX4_takeAway_116 : decode cX4_takeAway 116 = .ok (.return_, 1) := by decide +kernel
theorem dX4_links_0 : decode cX4_links 0 = .ok (.iconst 0, 1) := by decide +kernel
theorem dX4_links_1 : decode cX4_links 1 = .ok (.istore_n 2, 1) := by decide +kernel
theorem dX4_links_2 : decode cX4_links 2 = .ok (.iconst 0, 1) := by decide +kernel
theorem dX4_links_3 : decode cX4_links 3 = .ok (.istore_n 3, 1) := by decide +kernel
theorem dX4_links_4 : decode cX4_links 4 = .ok (.iload_n 3, 1) := by decide +kernel
theorem dX4_links_5 : decode cX4_links 5 = .ok (.bipush 32, 2) := by decide +kernel
theorem dX4_links_7 : decode cX4_links 7 = .ok (.if_icmp .ge 62, 3) := by decide +kernel
theorem dX4_links_10 : decode cX4_links 10 = .ok (.aload_n 0, 1) := by decide +kernel
theorem dX4_links_11 : decode cX4_links 11 = .ok (.iload_n 3, 1) := by decide +kernel
theorem dX4_links_12 : decode cX4_links 12 = .ok (.iconst 2, 1) := by decide +kernel
theorem dX4_links_13 : decode cX4_links 13 = .ok (.invokestatic 61, 3) := by decide +kernel
theorem dX4_links_16 : decode cX4_links 16 = .ok (.ifCond .eq 47, 3) := by decide +kernel
theorem dX4_links_19 : decode cX4_links 19 = .ok (.iconst 0, 1) := by decide +kernel
theorem dX4_links_20 : decode cX4_links 20 = .ok (.istore 4, 2) := by decide +kernel
theorem dX4_links_22 : decode cX4_links 22 = .ok (.iload 4, 2) := by decide +kernel
theorem dX4_links_24 : decode cX4_links 24 = .ok (.aload_n 0, 1) := by decide +kernel
theorem dX4_links_25 : decode cX4_links 25 = .ok (.iload_n 3, 1) := by decide +kernel
theorem dX4_links_26 : decode cX4_links 26 = .ok (.invokestatic 53, 3) := by decide +kernel
theorem dX4_links_29 : decode cX4_links 29 = .ok (.if_icmp .ge 34, 3) := by decide +kernel
theorem dX4_links_32 : decode cX4_links 32 = .ok (.iload_n 2, 1) := by decide +kernel
theorem dX4_links_33 : decode cX4_links 33 = .ok (.aload_n 0, 1) := by decide +kernel
theorem dX4_links_34 : decode cX4_links 34 = .ok (.sipush 1216, 3) := by decide +kernel
theorem dX4_links_37 : decode cX4_links 37 = .ok (.iload_n 3, 1) := by decide +kernel
theorem dX4_links_38 : decode cX4_links 38 = .ok (.bipush 12, 2) := by decide +kernel
theorem dX4_links_40 : decode cX4_links 40 = .ok (.imul, 1) := by decide +kernel
theorem dX4_links_41 : decode cX4_links 41 = .ok (.iadd, 1) := by decide +kernel
theorem dX4_links_42 : decode cX4_links 42 = .ok (.iload 4, 2) := by decide +kernel
theorem dX4_links_44 : decode cX4_links 44 = .ok (.iadd, 1) := by decide +kernel
theorem dX4_links_45 : decode cX4_links 45 = .ok (.iaload, 1) := by decide +kernel
theorem dX4_links_46 : decode cX4_links 46 = .ok (.iload_n 1, 1) := by decide +kernel
theorem dX4_links_47 : decode cX4_links 47 = .ok (.if_icmp .ne 7, 3) := by decide +kernel
theorem dX4_links_50 : decode cX4_links 50 = .ok (.iconst 1, 1) := by decide +kernel
theorem dX4_links_51 : decode cX4_links 51 = .ok (.goto 4, 3) := by decide +kernel
theorem dX4_links_54 : decode cX4_links 54 = .ok (.iconst 0, 1) := by decide +kernel
theorem dX4_links_55 : decode cX4_links 55 = .ok (.iadd, 1) := by decide +kernel
theorem dX4_links_56 : decode cX4_links 56 = .ok (.istore_n 2, 1) := by decide +kernel
theorem dX4_links_57 : decode cX4_links 57 = .ok (.iinc 4 1, 3) := by decide +kernel
theorem dX4_links_60 : decode cX4_links 60 = .ok (.goto (-38), 3) := by decide +kernel
theorem dX4_links_63 : decode cX4_links 63 = .ok (.iinc 3 1, 3) := by decide +kernel
theorem dX4_links_66 : decode cX4_links 66 = .ok (.goto (-62), 3) := by decide +kernel
theorem dX4_links_69 : decode cX4_links 69 = .ok (.iload_n 2, 1) := by decide +kernel
theorem dX4_links_70 : decode cX4_links 70 = .ok (.ireturn, 1) := by decide +kernel
theorem dX4_parent_0 : decode cX4_parent 0 = .ok (.iconst 0, 1) := by decide +kernel
theorem dX4_parent_1 : decode cX4_parent 1 = .ok (.istore_n 2, 1) := by decide +kernel
theorem dX4_parent_2 : decode cX4_parent 2 = .ok (.iload_n 2, 1) := by decide +kernel
theorem dX4_parent_3 : decode cX4_parent 3 = .ok (.bipush 32, 2) := by decide +kernel
theorem dX4_parent_5 : decode cX4_parent 5 = .ok (.if_icmp .ge 53, 3) := by decide +kernel
theorem dX4_parent_8 : decode cX4_parent 8 = .ok (.aload_n 0, 1) := by decide +kernel
theorem dX4_parent_9 : decode cX4_parent 9 = .ok (.iload_n 2, 1) := by decide +kernel
theorem dX4_parent_10 : decode cX4_parent 10 = .ok (.iconst 2, 1) := by decide +kernel
theorem dX4_parent_11 : decode cX4_parent 11 = .ok (.invokestatic 61, 3) := by decide +kernel
theorem dX4_parent_14 : decode cX4_parent 14 = .ok (.ifCond .eq 38, 3) := by decide +kernel
theorem dX4_parent_17 : decode cX4_parent 17 = .ok (.iconst 0, 1) := by decide +kernel
theorem dX4_parent_18 : decode cX4_parent 18 = .ok (.istore_n 3, 1) := by decide +kernel
theorem dX4_parent_19 : decode cX4_parent 19 = .ok (.iload_n 3, 1) := by decide +kernel
theorem dX4_parent_20 : decode cX4_parent 20 = .ok (.aload_n 0, 1) := by decide +kernel
theorem dX4_parent_21 : decode cX4_parent 21 = .ok (.iload_n 2, 1) := by decide +kernel
theorem dX4_parent_22 : decode cX4_parent 22 = .ok (.invokestatic 53, 3) := by decide +kernel
theorem dX4_parent_25 : decode cX4_parent 25 = .ok (.if_icmp .ge 27, 3) := by decide +kernel
theorem dX4_parent_28 : decode cX4_parent 28 = .ok (.aload_n 0, 1) := by decide +kernel
theorem dX4_parent_29 : decode cX4_parent 29 = .ok (.sipush 1216, 3) := by decide +kernel
theorem dX4_parent_32 : decode cX4_parent 32 = .ok (.iload_n 2, 1) := by decide +kernel
theorem dX4_parent_33 : decode cX4_parent 33 = .ok (.bipush 12, 2) := by decide +kernel
theorem dX4_parent_35 : decode cX4_parent 35 = .ok (.imul, 1) := by decide +kernel
theorem dX4_parent_36 : decode cX4_parent 36 = .ok (.iadd, 1) := by decide +kernel
theorem dX4_parent_37 : decode cX4_parent 37 = .ok (.iload_n 3, 1) := by decide +kernel
theorem dX4_parent_38 : decode cX4_parent 38 = .ok (.iadd, 1) := by decide +kernel
theorem dX4_parent_39 : decode cX4_parent 39 = .ok (.iaload, 1) := by decide +kernel
theorem dX4_parent_40 : decode cX4_parent 40 = .ok (.iload_n 1, 1) := by decide +kernel
theorem dX4_parent_41 : decode cX4_parent 41 = .ok (.if_icmp .ne 5, 3) := by decide +kernel
theorem dX4_parent_44 : decode cX4_parent 44 = .ok (.iload_n 2, 1) := by decide +kernel
theorem dX4_parent_45 : decode cX4_parent 45 = .ok (.ireturn, 1) := by decide +kernel
theorem dX4_parent_46 : decode cX4_parent 46 = .ok (.iinc 3 1, 3) := by decide +kernel
theorem dX4_parent_49 : decode cX4_parent 49 = .ok (.goto (-30), 3) := by decide +kernel
theorem dX4_parent_52 : decode cX4_parent 52 = .ok (.iinc 2 1, 3) := by decide +kernel
theorem dX4_parent_55 : decode cX4_parent 55 = .ok (.goto (-53), 3) := by decide +kernel
theorem dX4_parent_58 : decode cX4_parent 58 = .ok (.iconst 0, 1) := by decide +kernel
theorem dX4_parent_59 : decode cX4_parent 59 = .ok (.ireturn, 1) := by decide +kernel
theorem dX4_isWithin_0 : decode cX4_isWithin 0 = .ok (.iload_n 1, 1) := by decide +kernel
theorem dX4_isWithin_1 : decode cX4_isWithin 1 = .ok (.istore_n 3, 1) := by decide +kernel
theorem dX4_isWithin_2 : decode cX4_isWithin 2 = .ok (.iload_n 3, 1) := by decide +kernel
theorem dX4_isWithin_3 : decode cX4_isWithin 3 = .ok (.iload_n 2, 1) := by decide +kernel
theorem dX4_isWithin_4 : decode cX4_isWithin 4 = .ok (.if_icmp .eq 16, 3) := by decide +kernel
theorem dX4_isWithin_7 : decode cX4_isWithin 7 = .ok (.iload_n 3, 1) := by decide +kernel
theorem dX4_isWithin_8 : decode cX4_isWithin 8 = .ok (.ifCond .eq 12, 3) := by decide +kernel
theorem dX4_isWithin_11 : decode cX4_isWithin 11 = .ok (.aload_n 0, 1) := by decide +kernel
theorem dX4_isWithin_12 : decode cX4_isWithin 12 = .ok (.iload_n 3, 1) := by decide +kernel
theorem dX4_isWithin_13 : decode cX4_isWithin 13 = .ok (.invokestatic 65, 3) := by decide +kernel
theorem dX4_isWithin_16 : decode cX4_isWithin 16 = .ok (.istore_n 3, 1) := by decide +kernel
theorem dX4_isWithin_17 : decode cX4_isWithin 17 = .ok (.goto (-15), 3) := by decide +kernel
theorem dX4_isWithin_20 : decode cX4_isWithin 20 = .ok (.iload_n 3, 1) := by decide +kernel
theorem dX4_isWithin_21 : decode cX4_isWithin 21 = .ok (.iload_n 2, 1) := by decide +kernel
theorem dX4_isWithin_22 : decode cX4_isWithin 22 = .ok (.if_icmp .ne 7, 3) := by decide +kernel
theorem dX4_isWithin_25 : decode cX4_isWithin 25 = .ok (.iconst 1, 1) := by decide +kernel
theorem dX4_isWithin_26 : decode cX4_isWithin 26 = .ok (.goto 4, 3) := by decide +kernel
theorem dX4_isWithin_29 : decode cX4_isWithin 29 = .ok (.iconst 0, 1) := by decide +kernel
theorem dX4_isWithin_30 : decode cX4_isWithin 30 = .ok (.ireturn, 1) := by decide +kernel
theorem dX4_freeNode_0 : decode cX4_freeNode 0 = .ok (.iconst 0, 1) := by decide +kernel
theorem dX4_freeNode_1 : decode cX4_freeNode 1 = .ok (.istore_n 1, 1) := by decide +kernel
theorem dX4_freeNode_2 : decode cX4_freeNode 2 = .ok (.iload_n 1, 1) := by decide +kernel
theorem dX4_freeNode_3 : decode cX4_freeNode 3 = .ok (.bipush 32, 2) := by decide +kernel
theorem dX4_freeNode_5 : decode cX4_freeNode 5 = .ok (.if_icmp .ge 19, 3) := by decide +kernel
theorem dX4_freeNode_8 : decode cX4_freeNode 8 = .ok (.aload_n 0, 1) := by decide +kernel
theorem dX4_freeNode_9 : decode cX4_freeNode 9 = .ok (.iconst 0, 1) := by decide +kernel
theorem dX4_freeNode_10 : decode cX4_freeNode 10 = .ok (.iload_n 1, 1) := by decide +kernel
theorem dX4_freeNode_11 : decode cX4_freeNode 11 = .ok (.iadd, 1) := by decide +kernel
theorem dX4_freeNode_12 : decode cX4_freeNode 12 = .ok (.iaload, 1) := by decide +kernel
theorem dX4_freeNode_13 : decode cX4_freeNode 13 = .ok (.ifCond .ne 5, 3) := by decide +kernel
theorem dX4_freeNode_16 : decode cX4_freeNode 16 = .ok (.iload_n 1, 1) := by decide +kernel
theorem dX4_freeNode_17 : decode cX4_freeNode 17 = .ok (.ireturn, 1) := by decide +kernel
theorem dX4_freeNode_18 : decode cX4_freeNode 18 = .ok (.iinc 1 1, 3) := by decide +kernel
theorem dX4_freeNode_21 : decode cX4_freeNode 21 = .ok (.goto (-19), 3) := by decide +kernel
theorem dX4_freeNode_24 : decode cX4_freeNode 24 = .ok (.iconst (-1), 1) := by decide +kernel
theorem dX4_freeNode_25 : decode cX4_freeNode 25 = .ok (.ireturn, 1) := by decide +kernel
theorem dX4_uses_0 : decode cX4_uses 0 = .ok (.iconst 0, 1) := by decide +kernel
theorem dX4_uses_1 : decode cX4_uses 1 = .ok (.istore_n 2, 1) := by decide +kernel
theorem dX4_uses_2 : decode cX4_uses 2 = .ok (.iconst 0, 1) := by decide +kernel
theorem dX4_uses_3 : decode cX4_uses 3 = .ok (.istore_n 3, 1) := by decide +kernel
theorem dX4_uses_4 : decode cX4_uses 4 = .ok (.iload_n 3, 1) := by decide +kernel
theorem dX4_uses_5 : decode cX4_uses 5 = .ok (.sipush 640, 3) := by decide +kernel
theorem dX4_uses_8 : decode cX4_uses 8 = .ok (.if_icmp .ge 28, 3) := by decide +kernel
theorem dX4_uses_11 : decode cX4_uses 11 = .ok (.iload_n 2, 1) := by decide +kernel
theorem dX4_uses_12 : decode cX4_uses 12 = .ok (.aload_n 0, 1) := by decide +kernel
theorem dX4_uses_13 : decode cX4_uses 13 = .ok (.sipush 192, 3) := by decide +kernel
theorem dX4_uses_16 : decode cX4_uses 16 = .ok (.iload_n 3, 1) := by decide +kernel
theorem dX4_uses_17 : decode cX4_uses 17 = .ok (.iadd, 1) := by decide +kernel
theorem dX4_uses_18 : decode cX4_uses 18 = .ok (.iaload, 1) := by decide +kernel
theorem dX4_uses_19 : decode cX4_uses 19 = .ok (.iload_n 1, 1) := by decide +kernel
theorem dX4_uses_20 : decode cX4_uses 20 = .ok (.if_icmp .ne 7, 3) := by decide +kernel
theorem dX4_uses_23 : decode cX4_uses 23 = .ok (.iconst 1, 1) := by decide +kernel
theorem dX4_uses_24 : decode cX4_uses 24 = .ok (.goto 4, 3) := by decide +kernel
theorem dX4_uses_27 : decode cX4_uses 27 = .ok (.iconst 0, 1) := by decide +kernel
theorem dX4_uses_28 : decode cX4_uses 28 = .ok (.iadd, 1) := by decide +kernel
theorem dX4_uses_29 : decode cX4_uses 29 = .ok (.istore_n 2, 1) := by decide +kernel
theorem dX4_uses_30 : decode cX4_uses 30 = .ok (.iinc 3 1, 3) := by decide +kernel
theorem dX4_uses_33 : decode cX4_uses 33 = .ok (.goto (-29), 3) := by decide +kernel
theorem dX4_uses_36 : decode cX4_uses 36 = .ok (.iload_n 2, 1) := by decide +kernel
theorem dX4_uses_37 : decode cX4_uses 37 = .ok (.ireturn, 1) := by decide +kernel
theorem dX4_folderBlocks_0 : decode cX4_folderBlocks 0 = .ok (.iload_n 0, 1) := by decide +kernel
theorem dX4_folderBlocks_1 : decode cX4_folderBlocks 1 = .ok (.iconst 3, 1) := by decide +kernel
theorem dX4_folderBlocks_2 : decode cX4_folderBlocks 2 = .ok (.iadd, 1) := by decide +kernel
theorem dX4_folderBlocks_3 : decode cX4_folderBlocks 3 = .ok (.iconst 4, 1) := by decide +kernel
theorem dX4_folderBlocks_4 : decode cX4_folderBlocks 4 = .ok (.idiv, 1) := by decide +kernel
theorem dX4_folderBlocks_5 : decode cX4_folderBlocks 5 = .ok (.ireturn, 1) := by decide +kernel
theorem dX4_blocks_0 : decode cX4_blocks 0 = .ok (.aload_n 0, 1) := by decide +kernel
theorem dX4_blocks_1 : decode cX4_blocks 1 = .ok (.iload_n 1, 1) := by decide +kernel
theorem dX4_blocks_2 : decode cX4_blocks 2 = .ok (.iconst 2, 1) := by decide +kernel
theorem dX4_blocks_3 : decode cX4_blocks 3 = .ok (.invokestatic 61, 3) := by decide +kernel
theorem dX4_blocks_6 : decode cX4_blocks 6 = .ok (.ifCond .eq 12, 3) := by decide +kernel
theorem dX4_blocks_9 : decode cX4_blocks 9 = .ok (.aload_n 0, 1) := by decide +kernel
theorem dX4_blocks_10 : decode cX4_blocks 10 = .ok (.iload_n 1, 1) := by decide +kernel
theorem dX4_blocks_11 : decode cX4_blocks 11 = .ok (.invokestatic 53, 3) := by decide +kernel
theorem dX4_blocks_14 : decode cX4_blocks 14 = .ok (.invokestatic 68, 3) := by decide +kernel
theorem dX4_blocks_17 : decode cX4_blocks 17 = .ok (.ireturn, 1) := by decide +kernel
theorem dX4_blocks_18 : decode cX4_blocks 18 = .ok (.iconst 0, 1) := by decide +kernel
theorem dX4_blocks_19 : decode cX4_blocks 19 = .ok (.istore_n 2, 1) := by decide +kernel
theorem dX4_blocks_20 : decode cX4_blocks 20 = .ok (.iconst 0, 1) := by decide +kernel
theorem dX4_blocks_21 : decode cX4_blocks 21 = .ok (.istore_n 3, 1) := by decide +kernel
theorem dX4_blocks_22 : decode cX4_blocks 22 = .ok (.iload_n 3, 1) := by decide +kernel
theorem dX4_blocks_23 : decode cX4_blocks 23 = .ok (.bipush 20, 2) := by decide +kernel
theorem dX4_blocks_25 : decode cX4_blocks 25 = .ok (.if_icmp .ge 32, 3) := by decide +kernel
theorem dX4_blocks_28 : decode cX4_blocks 28 = .ok (.iload_n 2, 1) := by decide +kernel
theorem dX4_blocks_29 : decode cX4_blocks 29 = .ok (.aload_n 0, 1) := by decide +kernel
theorem dX4_blocks_30 : decode cX4_blocks 30 = .ok (.sipush 192, 3) := by decide +kernel
theorem dX4_blocks_33 : decode cX4_blocks 33 = .ok (.iload_n 1, 1) := by decide +kernel
theorem dX4_blocks_34 : decode cX4_blocks 34 = .ok (.bipush 20, 2) := by decide +kernel
theorem dX4_blocks_36 : decode cX4_blocks 36 = .ok (.imul, 1) := by decide +kernel
theorem dX4_blocks_37 : decode cX4_blocks 37 = .ok (.iadd, 1) := by decide +kernel
theorem dX4_blocks_38 : decode cX4_blocks 38 = .ok (.iload_n 3, 1) := by decide +kernel
theorem dX4_blocks_39 : decode cX4_blocks 39 = .ok (.iadd, 1) := by decide +kernel
theorem dX4_blocks_40 : decode cX4_blocks 40 = .ok (.iaload, 1) := by decide +kernel
theorem dX4_blocks_41 : decode cX4_blocks 41 = .ok (.ifCond .le 7, 3) := by decide +kernel
theorem dX4_blocks_44 : decode cX4_blocks 44 = .ok (.iconst 1, 1) := by decide +kernel
theorem dX4_blocks_45 : decode cX4_blocks 45 = .ok (.goto 4, 3) := by decide +kernel
theorem dX4_blocks_48 : decode cX4_blocks 48 = .ok (.iconst 0, 1) := by decide +kernel
theorem dX4_blocks_49 : decode cX4_blocks 49 = .ok (.iadd, 1) := by decide +kernel
theorem dX4_blocks_50 : decode cX4_blocks 50 = .ok (.istore_n 2, 1) := by decide +kernel
theorem dX4_blocks_51 : decode cX4_blocks 51 = .ok (.iinc 3 1, 3) := by decide +kernel
theorem dX4_blocks_54 : decode cX4_blocks 54 = .ok (.goto (-32), 3) := by decide +kernel
theorem dX4_blocks_57 : decode cX4_blocks 57 = .ok (.iload_n 2, 1) := by decide +kernel
theorem dX4_blocks_58 : decode cX4_blocks 58 = .ok (.ireturn, 1) := by decide +kernel
theorem dX4_fileBlocks_0 : decode cX4_fileBlocks 0 = .ok (.sipush 201, 3) := by decide +kernel
theorem dX4_fileBlocks_3 : decode cX4_fileBlocks 3 = .ok (.newarray .boolean, 2) := by decide +kernel
theorem dX4_fileBlocks_5 : decode cX4_fileBlocks 5 = .ok (.astore_n 2, 1) := by decide +kernel
theorem dX4_fileBlocks_6 : decode cX4_fileBlocks 6 = .ok (.iconst 0, 1) := by decide +kernel
theorem dX4_fileBlocks_7 : decode cX4_fileBlocks 7 = .ok (.istore_n 3, 1) := by decide +kernel
theorem dX4_fileBlocks_8 : decode cX4_fileBlocks 8 = .ok (.iconst 0, 1) := by decide +kernel
theorem dX4_fileBlocks_9 : decode cX4_fileBlocks 9 = .ok (.istore 4, 2) := by decide +kernel
theorem dX4_fileBlocks_11 : decode cX4_fileBlocks 11 = .ok (.iload 4, 2) := by decide +kernel
theorem dX4_fileBlocks_13 : decode cX4_fileBlocks 13 = .ok (.sipush 640, 3) := by decide +kernel
theorem dX4_fileBlocks_16 : decode cX4_fileBlocks 16 = .ok (.if_icmp .ge 52, 3) := by decide +kernel
theorem dX4_fileBlocks_19 : decode cX4_fileBlocks 19 = .ok (.aload_n 0, 1) := by decide +kernel
theorem dX4_fileBlocks_20 : decode cX4_fileBlocks 20 = .ok (.sipush 192, 3) := by decide +kernel
theorem dX4_fileBlocks_23 : decode cX4_fileBlocks 23 = .ok (.iload 4, 2) := by decide +kernel
theorem dX4_fileBlocks_25 : decode cX4_fileBlocks 25 = .ok (.iadd, 1) := by decide +kernel
theorem dX4_fileBlocks_26 : decode cX4_fileBlocks 26 = .ok (.iaload, 1) := by decide +kernel
theorem dX4_fileBlocks_27 : decode cX4_fileBlocks 27 = .ok (.istore 5, 2) := by decide +kernel
theorem dX4_fileBlocks_29 : decode cX4_fileBlocks 29 = .ok (.iload 5, 2) := by decide +kernel
theorem dX4_fileBlocks_31 : decode cX4_fileBlocks 31 = .ok (.ifCond .eq 31, 3) := by decide +kernel
theorem dX4_fileBlocks_34 : decode cX4_fileBlocks 34 = .ok (.aload_n 2, 1) := by decide +kernel
theorem dX4_fileBlocks_35 : decode cX4_fileBlocks 35 = .ok (.iload 5, 2) := by decide +kernel
theorem dX4_fileBlocks_37 : decode cX4_fileBlocks 37 = .ok (.baload, 1) := by decide +kernel
theorem dX4_fileBlocks_38 : decode cX4_fileBlocks 38 = .ok (.ifCond .ne 24, 3) := by decide +kernel
theorem dX4_fileBlocks_41 : decode cX4_fileBlocks 41 = .ok (.aload_n 1, 1) := by decide +kernel
theorem dX4_fileBlocks_42 : decode cX4_fileBlocks 42 = .ok (.iload 4, 2) := by decide +kernel
theorem dX4_fileBlocks_44 : decode cX4_fileBlocks 44 = .ok (.bipush 20, 2) := by decide +kernel
theorem dX4_fileBlocks_46 : decode cX4_fileBlocks 46 = .ok (.idiv, 1) := by decide +kernel
theorem dX4_fileBlocks_47 : decode cX4_fileBlocks 47 = .ok (.baload, 1) := by decide +kernel
theorem dX4_fileBlocks_48 : decode cX4_fileBlocks 48 = .ok (.ifCond .ne 6, 3) := by decide +kernel
theorem dX4_fileBlocks_51 : decode cX4_fileBlocks 51 = .ok (.goto 11, 3) := by decide +kernel
theorem dX4_fileBlocks_54 : decode cX4_fileBlocks 54 = .ok (.aload_n 2, 1) := by decide +kernel
theorem dX4_fileBlocks_55 : decode cX4_fileBlocks 55 = .ok (.iload 5, 2) := by decide +kernel
theorem dX4_fileBlocks_57 : decode cX4_fileBlocks 57 = .ok (.iconst 1, 1) := by decide +kernel
theorem dX4_fileBlocks_58 : decode cX4_fileBlocks 58 = .ok (.bastore, 1) := by decide +kernel
theorem dX4_fileBlocks_59 : decode cX4_fileBlocks 59 = .ok (.iinc 3 1, 3) := by decide +kernel
theorem dX4_fileBlocks_62 : decode cX4_fileBlocks 62 = .ok (.iinc 4 1, 3) := by decide +kernel
theorem dX4_fileBlocks_65 : decode cX4_fileBlocks 65 = .ok (.goto (-54), 3) := by decide +kernel
theorem dX4_fileBlocks_68 : decode cX4_fileBlocks 68 = .ok (.iload_n 3, 1) := by decide +kernel
theorem dX4_fileBlocks_69 : decode cX4_fileBlocks 69 = .ok (.ireturn, 1) := by decide +kernel
theorem dX4_all_0 : decode cX4_all 0 = .ok (.bipush 32, 2) := by decide +kernel
theorem dX4_all_2 : decode cX4_all 2 = .ok (.newarray .boolean, 2) := by decide +kernel
theorem dX4_all_4 : decode cX4_all 4 = .ok (.astore_n 0, 1) := by decide +kernel
theorem dX4_all_5 : decode cX4_all 5 = .ok (.iconst 0, 1) := by decide +kernel
theorem dX4_all_6 : decode cX4_all 6 = .ok (.istore_n 1, 1) := by decide +kernel
theorem dX4_all_7 : decode cX4_all 7 = .ok (.iload_n 1, 1) := by decide +kernel
theorem dX4_all_8 : decode cX4_all 8 = .ok (.bipush 32, 2) := by decide +kernel
theorem dX4_all_10 : decode cX4_all 10 = .ok (.if_icmp .ge 13, 3) := by decide +kernel
theorem dX4_all_13 : decode cX4_all 13 = .ok (.aload_n 0, 1) := by decide +kernel
theorem dX4_all_14 : decode cX4_all 14 = .ok (.iload_n 1, 1) := by decide +kernel
theorem dX4_all_15 : decode cX4_all 15 = .ok (.iconst 1, 1) := by decide +kernel
theorem dX4_all_16 : decode cX4_all 16 = .ok (.bastore, 1) := by decide +kernel
theorem dX4_all_17 : decode cX4_all 17 = .ok (.iinc 1 1, 3) := by decide +kernel
theorem dX4_all_20 : decode cX4_all 20 = .ok (.goto (-13), 3) := by decide +kernel
theorem dX4_all_23 : decode cX4_all 23 = .ok (.aload_n 0, 1) := by decide +kernel
theorem dX4_all_24 : decode cX4_all 24 = .ok (.areturn, 1) := by decide +kernel
theorem dX4_used_0 : decode cX4_used 0 = .ok (.aload_n 0, 1) := by decide +kernel
theorem dX4_used_1 : decode cX4_used 1 = .ok (.invokestatic 72, 3) := by decide +kernel
theorem dX4_used_4 : decode cX4_used 4 = .ok (.invokestatic 76, 3) := by decide +kernel
theorem dX4_used_7 : decode cX4_used 7 = .ok (.istore_n 1, 1) := by decide +kernel
theorem dX4_used_8 : decode cX4_used 8 = .ok (.iconst 0, 1) := by decide +kernel
theorem dX4_used_9 : decode cX4_used 9 = .ok (.istore_n 2, 1) := by decide +kernel
theorem dX4_used_10 : decode cX4_used 10 = .ok (.iload_n 2, 1) := by decide +kernel
theorem dX4_used_11 : decode cX4_used 11 = .ok (.bipush 32, 2) := by decide +kernel
theorem dX4_used_13 : decode cX4_used 13 = .ok (.if_icmp .ge 30, 3) := by decide +kernel
theorem dX4_used_16 : decode cX4_used 16 = .ok (.iload_n 1, 1) := by decide +kernel
theorem dX4_used_17 : decode cX4_used 17 = .ok (.aload_n 0, 1) := by decide +kernel
theorem dX4_used_18 : decode cX4_used 18 = .ok (.iload_n 2, 1) := by decide +kernel
theorem dX4_used_19 : decode cX4_used 19 = .ok (.iconst 2, 1) := by decide +kernel
theorem dX4_used_20 : decode cX4_used 20 = .ok (.invokestatic 61, 3) := by decide +kernel
theorem dX4_used_23 : decode cX4_used 23 = .ok (.ifCond .eq 11, 3) := by decide +kernel
theorem dX4_used_26 : decode cX4_used 26 = .ok (.aload_n 0, 1) := by decide +kernel
theorem dX4_used_27 : decode cX4_used 27 = .ok (.iload_n 2, 1) := by decide +kernel
theorem dX4_used_28 : decode cX4_used 28 = .ok (.invokestatic 80, 3) := by decide +kernel
theorem dX4_used_31 : decode cX4_used 31 = .ok (.goto 4, 3) := by decide +kernel
theorem dX4_used_34 : decode cX4_used 34 = .ok (.iconst 0, 1) := by decide +kernel
theorem dX4_used_35 : decode cX4_used 35 = .ok (.iadd, 1) := by decide +kernel
theorem dX4_used_36 : decode cX4_used 36 = .ok (.istore_n 1, 1) := by decide +kernel
theorem dX4_used_37 : decode cX4_used 37 = .ok (.iinc 2 1, 3) := by decide +kernel
theorem dX4_used_40 : decode cX4_used 40 = .ok (.goto (-30), 3) := by decide +kernel
theorem dX4_used_43 : decode cX4_used 43 = .ok (.iload_n 1, 1) := by decide +kernel
theorem dX4_used_44 : decode cX4_used 44 = .ok (.ireturn, 1) := by decide +kernel
theorem dX4_usedBy_0 : decode cX4_usedBy 0 = .ok (.iconst 0, 1) := by decide +kernel
theorem dX4_usedBy_1 : decode cX4_usedBy 1 = .ok (.istore_n 2, 1) := by decide +kernel
theorem dX4_usedBy_2 : decode cX4_usedBy 2 = .ok (.iconst 0, 1) := by decide +kernel
theorem dX4_usedBy_3 : decode cX4_usedBy 3 = .ok (.istore_n 3, 1) := by decide +kernel
theorem dX4_usedBy_4 : decode cX4_usedBy 4 = .ok (.iload_n 3, 1) := by decide +kernel
theorem dX4_usedBy_5 : decode cX4_usedBy 5 = .ok (.bipush 32, 2) := by decide +kernel
theorem dX4_usedBy_7 : decode cX4_usedBy 7 = .ok (.if_icmp .ge 39, 3) := by decide +kernel
theorem dX4_usedBy_10 : decode cX4_usedBy 10 = .ok (.iload_n 2, 1) := by decide +kernel
theorem dX4_usedBy_11 : decode cX4_usedBy 11 = .ok (.aload_n 0, 1) := by decide +kernel
theorem dX4_usedBy_12 : decode cX4_usedBy 12 = .ok (.iconst 0, 1) := by decide +kernel
theorem dX4_usedBy_13 : decode cX4_usedBy 13 = .ok (.iload_n 3, 1) := by decide +kernel
theorem dX4_usedBy_14 : decode cX4_usedBy 14 = .ok (.iadd, 1) := by decide +kernel
theorem dX4_usedBy_15 : decode cX4_usedBy 15 = .ok (.iaload, 1) := by decide +kernel
theorem dX4_usedBy_16 : decode cX4_usedBy 16 = .ok (.ifCond .eq 21, 3) := by decide +kernel
theorem dX4_usedBy_19 : decode cX4_usedBy 19 = .ok (.aload_n 0, 1) := by decide +kernel
theorem dX4_usedBy_20 : decode cX4_usedBy 20 = .ok (.bipush 32, 2) := by decide +kernel
theorem dX4_usedBy_22 : decode cX4_usedBy 22 = .ok (.iload_n 3, 1) := by decide +kernel
theorem dX4_usedBy_23 : decode cX4_usedBy 23 = .ok (.iadd, 1) := by decide +kernel
theorem dX4_usedBy_24 : decode cX4_usedBy 24 = .ok (.iaload, 1) := by decide +kernel
theorem dX4_usedBy_25 : decode cX4_usedBy 25 = .ok (.iload_n 1, 1) := by decide +kernel
theorem dX4_usedBy_26 : decode cX4_usedBy 26 = .ok (.if_icmp .ne 11, 3) := by decide +kernel
theorem dX4_usedBy_29 : decode cX4_usedBy 29 = .ok (.aload_n 0, 1) := by decide +kernel
theorem dX4_usedBy_30 : decode cX4_usedBy 30 = .ok (.iload_n 3, 1) := by decide +kernel
theorem dX4_usedBy_31 : decode cX4_usedBy 31 = .ok (.invokestatic 80, 3) := by decide +kernel
theorem dX4_usedBy_34 : decode cX4_usedBy 34 = .ok (.goto 4, 3) := by decide +kernel
theorem dX4_usedBy_37 : decode cX4_usedBy 37 = .ok (.iconst 0, 1) := by decide +kernel
theorem dX4_usedBy_38 : decode cX4_usedBy 38 = .ok (.iadd, 1) := by decide +kernel
theorem dX4_usedBy_39 : decode cX4_usedBy 39 = .ok (.istore_n 2, 1) := by decide +kernel
theorem dX4_usedBy_40 : decode cX4_usedBy 40 = .ok (.iinc 3 1, 3) := by decide +kernel
theorem dX4_usedBy_43 : decode cX4_usedBy 43 = .ok (.goto (-39), 3) := by decide +kernel
theorem dX4_usedBy_46 : decode cX4_usedBy 46 = .ok (.iload_n 2, 1) := by decide +kernel
theorem dX4_usedBy_47 : decode cX4_usedBy 47 = .ok (.ireturn, 1) := by decide +kernel
theorem dX4_byteOf_0 : decode cX4_byteOf 0 = .ok (.aload_n 0, 1) := by decide +kernel
theorem dX4_byteOf_1 : decode cX4_byteOf 1 = .ok (.sipush 192, 3) := by decide +kernel
theorem dX4_byteOf_4 : decode cX4_byteOf 4 = .ok (.iload_n 1, 1) := by decide +kernel
theorem dX4_byteOf_5 : decode cX4_byteOf 5 = .ok (.bipush 20, 2) := by decide +kernel
theorem dX4_byteOf_7 : decode cX4_byteOf 7 = .ok (.imul, 1) := by decide +kernel
theorem dX4_byteOf_8 : decode cX4_byteOf 8 = .ok (.iadd, 1) := by decide +kernel
theorem dX4_byteOf_9 : decode cX4_byteOf 9 = .ok (.iload_n 2, 1) := by decide +kernel
theorem dX4_byteOf_10 : decode cX4_byteOf 10 = .ok (.bipush 16, 2) := by decide +kernel
theorem dX4_byteOf_12 : decode cX4_byteOf 12 = .ok (.idiv, 1) := by decide +kernel
theorem dX4_byteOf_13 : decode cX4_byteOf 13 = .ok (.iadd, 1) := by decide +kernel
theorem dX4_byteOf_14 : decode cX4_byteOf 14 = .ok (.iaload, 1) := by decide +kernel
theorem dX4_byteOf_15 : decode cX4_byteOf 15 = .ok (.istore_n 3, 1) := by decide +kernel
theorem dX4_byteOf_16 : decode cX4_byteOf 16 = .ok (.iload_n 3, 1) := by decide +kernel
theorem dX4_byteOf_17 : decode cX4_byteOf 17 = .ok (.ifCond .ne 7, 3) := by decide +kernel
theorem dX4_byteOf_20 : decode cX4_byteOf 20 = .ok (.iconst 0, 1) := by decide +kernel
theorem dX4_byteOf_21 : decode cX4_byteOf 21 = .ok (.goto 20, 3) := by decide +kernel
theorem dX4_byteOf_24 : decode cX4_byteOf 24 = .ok (.aload_n 0, 1) := by decide +kernel
theorem dX4_byteOf_25 : decode cX4_byteOf 25 = .ok (.sipush 1605, 3) := by decide +kernel
theorem dX4_byteOf_28 : decode cX4_byteOf 28 = .ok (.iload_n 3, 1) := by decide +kernel
theorem dX4_byteOf_29 : decode cX4_byteOf 29 = .ok (.iconst 1, 1) := by decide +kernel
theorem dX4_byteOf_30 : decode cX4_byteOf 30 = .ok (.isub, 1) := by decide +kernel
theorem dX4_byteOf_31 : decode cX4_byteOf 31 = .ok (.bipush 16, 2) := by decide +kernel
theorem dX4_byteOf_33 : decode cX4_byteOf 33 = .ok (.imul, 1) := by decide +kernel
theorem dX4_byteOf_34 : decode cX4_byteOf 34 = .ok (.iadd, 1) := by decide +kernel
theorem dX4_byteOf_35 : decode cX4_byteOf 35 = .ok (.iload_n 2, 1) := by decide +kernel
theorem dX4_byteOf_36 : decode cX4_byteOf 36 = .ok (.bipush 16, 2) := by decide +kernel
theorem dX4_byteOf_38 : decode cX4_byteOf 38 = .ok (.irem, 1) := by decide +kernel
theorem dX4_byteOf_39 : decode cX4_byteOf 39 = .ok (.iadd, 1) := by decide +kernel
theorem dX4_byteOf_40 : decode cX4_byteOf 40 = .ok (.iaload, 1) := by decide +kernel
theorem dX4_byteOf_41 : decode cX4_byteOf 41 = .ok (.ireturn, 1) := by decide +kernel
theorem dX4_own_0 : decode cX4_own 0 = .ok (.sipush 192, 3) := by decide +kernel
theorem dX4_own_3 : decode cX4_own 3 = .ok (.iload_n 1, 1) := by decide +kernel
theorem dX4_own_4 : decode cX4_own 4 = .ok (.bipush 20, 2) := by decide +kernel
theorem dX4_own_6 : decode cX4_own 6 = .ok (.imul, 1) := by decide +kernel
theorem dX4_own_7 : decode cX4_own 7 = .ok (.iadd, 1) := by decide +kernel
theorem dX4_own_8 : decode cX4_own 8 = .ok (.iload_n 2, 1) := by decide +kernel
theorem dX4_own_9 : decode cX4_own 9 = .ok (.iadd, 1) := by decide +kernel
theorem dX4_own_10 : decode cX4_own 10 = .ok (.istore_n 3, 1) := by decide +kernel
theorem dX4_own_11 : decode cX4_own 11 = .ok (.aload_n 0, 1) := by decide +kernel
theorem dX4_own_12 : decode cX4_own 12 = .ok (.iload_n 3, 1) := by decide +kernel
theorem dX4_own_13 : decode cX4_own 13 = .ok (.iaload, 1) := by decide +kernel
theorem dX4_own_14 : decode cX4_own 14 = .ok (.istore 4, 2) := by decide +kernel
theorem dX4_own_16 : decode cX4_own 16 = .ok (.iload 4, 2) := by decide +kernel
theorem dX4_own_18 : decode cX4_own 18 = .ok (.ifCond .le 16, 3) := by decide +kernel
theorem dX4_own_21 : decode cX4_own 21 = .ok (.aload_n 0, 1) := by decide +kernel
theorem dX4_own_22 : decode cX4_own 22 = .ok (.iload 4, 2) := by decide +kernel
theorem dX4_own_24 : decode cX4_own 24 = .ok (.invokestatic 83, 3) := by decide +kernel
theorem dX4_own_27 : decode cX4_own 27 = .ok (.iconst 1, 1) := by decide +kernel
theorem dX4_own_28 : decode cX4_own 28 = .ok (.if_icmp .ne 6, 3) := by decide +kernel
theorem dX4_own_31 : decode cX4_own 31 = .ok (.iload 4, 2) := by decide +kernel
theorem dX4_own_33 : decode cX4_own 33 = .ok (.ireturn, 1) := by decide +kernel
theorem dX4_own_34 : decode cX4_own 34 = .ok (.iconst 1, 1) := by decide +kernel
theorem dX4_own_35 : decode cX4_own 35 = .ok (.istore 5, 2) := by decide +kernel
theorem dX4_own_37 : decode cX4_own 37 = .ok (.aload_n 0, 1) := by decide +kernel
theorem dX4_own_38 : decode cX4_own 38 = .ok (.iload 5, 2) := by decide +kernel
theorem dX4_own_40 : decode cX4_own 40 = .ok (.invokestatic 83, 3) := by decide +kernel
theorem dX4_own_43 : decode cX4_own 43 = .ok (.ifCond .le 9, 3) := by decide +kernel
theorem dX4_own_46 : decode cX4_own 46 = .ok (.iinc 5 1, 3) := by decide +kernel
theorem dX4_own_49 : decode cX4_own 49 = .ok (.goto (-12), 3) := by decide +kernel
theorem dX4_own_52 : decode cX4_own 52 = .ok (.iconst 0, 1) := by decide +kernel
theorem dX4_own_53 : decode cX4_own 53 = .ok (.istore 6, 2) := by decide +kernel
theorem dX4_own_55 : decode cX4_own 55 = .ok (.iload 6, 2) := by decide +kernel
theorem dX4_own_57 : decode cX4_own 57 = .ok (.bipush 16, 2) := by decide +kernel
theorem dX4_own_59 : decode cX4_own 59 = .ok (.if_icmp .ge 50, 3) := by decide +kernel
theorem dX4_own_62 : decode cX4_own 62 = .ok (.aload_n 0, 1) := by decide +kernel
theorem dX4_own_63 : decode cX4_own 63 = .ok (.sipush 1605, 3) := by decide +kernel
theorem dX4_own_66 : decode cX4_own 66 = .ok (.iload 5, 2) := by decide +kernel
theorem dX4_own_68 : decode cX4_own 68 = .ok (.iconst 1, 1) := by decide +kernel
theorem dX4_own_69 : decode cX4_own 69 = .ok (.isub, 1) := by decide +kernel
theorem dX4_own_70 : decode cX4_own 70 = .ok (.bipush 16, 2) := by decide +kernel
theorem dX4_own_72 : decode cX4_own 72 = .ok (.imul, 1) := by decide +kernel
theorem dX4_own_73 : decode cX4_own 73 = .ok (.iadd, 1) := by decide +kernel
theorem dX4_own_74 : decode cX4_own 74 = .ok (.iload 6, 2) := by decide +kernel
theorem dX4_own_76 : decode cX4_own 76 = .ok (.iadd, 1) := by decide +kernel
theorem dX4_own_77 : decode cX4_own 77 = .ok (.iload 4, 2) := by decide +kernel
theorem dX4_own_79 : decode cX4_own 79 = .ok (.ifCond .ne 7, 3) := by decide +kernel
theorem dX4_own_82 : decode cX4_own 82 = .ok (.iconst 0, 1) := by decide +kernel
theorem dX4_own_83 : decode cX4_own 83 = .ok (.goto 19, 3) := by decide +kernel
theorem dX4_own_86 : decode cX4_own 86 = .ok (.aload_n 0, 1) := by decide +kernel
theorem dX4_own_87 : decode cX4_own 87 = .ok (.sipush 1605, 3) := by decide +kernel
theorem dX4_own_90 : decode cX4_own 90 = .ok (.iload 4, 2) := by decide +kernel
theorem dX4_own_92 : decode cX4_own 92 = .ok (.iconst 1, 1) := by decide +kernel
theorem dX4_own_93 : decode cX4_own 93 = .ok (.isub, 1) := by decide +kernel
theorem dX4_own_94 : decode cX4_own 94 = .ok (.bipush 16, 2) := by decide +kernel
theorem dX4_own_96 : decode cX4_own 96 = .ok (.imul, 1) := by decide +kernel
theorem dX4_own_97 : decode cX4_own 97 = .ok (.iadd, 1) := by decide +kernel
theorem dX4_own_98 : decode cX4_own 98 = .ok (.iload 6, 2) := by decide +kernel
theorem dX4_own_100 : decode cX4_own 100 = .ok (.iadd, 1) := by decide +kernel
theorem dX4_own_101 : decode cX4_own 101 = .ok (.iaload, 1) := by decide +kernel
theorem dX4_own_102 : decode cX4_own 102 = .ok (.iastore, 1) := by decide +kernel
theorem dX4_own_103 : decode cX4_own 103 = .ok (.iinc 6 1, 3) := by decide +kernel
theorem dX4_own_106 : decode cX4_own 106 = .ok (.goto (-51), 3) := by decide +kernel
theorem dX4_own_109 : decode cX4_own 109 = .ok (.aload_n 0, 1) := by decide +kernel
theorem dX4_own_110 : decode cX4_own 110 = .ok (.iload_n 3, 1) := by decide +kernel
theorem dX4_own_111 : decode cX4_own 111 = .ok (.iload 5, 2) := by decide +kernel
theorem dX4_own_113 : decode cX4_own 113 = .ok (.iastore, 1) := by decide +kernel
theorem dX4_own_114 : decode cX4_own 114 = .ok (.iload 5, 2) := by decide +kernel
theorem dX4_own_116 : decode cX4_own 116 = .ok (.ireturn, 1) := by decide +kernel
theorem dX4_set_0 : decode cX4_set 0 = .ok (.aload_n 0, 1) := by decide +kernel
theorem dX4_set_1 : decode cX4_set 1 = .ok (.sipush 1605, 3) := by decide +kernel
theorem dX4_set_4 : decode cX4_set 4 = .ok (.aload_n 0, 1) := by decide +kernel
theorem dX4_set_5 : decode cX4_set 5 = .ok (.iload_n 1, 1) := by decide +kernel
theorem dX4_set_6 : decode cX4_set 6 = .ok (.iload_n 2, 1) := by decide +kernel
theorem dX4_set_7 : decode cX4_set 7 = .ok (.bipush 16, 2) := by decide +kernel
theorem dX4_set_9 : decode cX4_set 9 = .ok (.idiv, 1) := by decide +kernel
theorem dX4_set_10 : decode cX4_set 10 = .ok (.invokestatic 86, 3) := by decide +kernel
theorem dX4_set_13 : decode cX4_set 13 = .ok (.iconst 1, 1) := by decide +kernel
theorem dX4_set_14 : decode cX4_set 14 = .ok (.isub, 1) := by decide +kernel
theorem dX4_set_15 : decode cX4_set 15 = .ok (.bipush 16, 2) := by decide +kernel
theorem dX4_set_17 : decode cX4_set 17 = .ok (.imul, 1) := by decide +kernel
theorem dX4_set_18 : decode cX4_set 18 = .ok (.iadd, 1) := by decide +kernel
theorem dX4_set_19 : decode cX4_set 19 = .ok (.iload_n 2, 1) := by decide +kernel
theorem dX4_set_20 : decode cX4_set 20 = .ok (.bipush 16, 2) := by decide +kernel
theorem dX4_set_22 : decode cX4_set 22 = .ok (.irem, 1) := by decide +kernel
theorem dX4_set_23 : decode cX4_set 23 = .ok (.iadd, 1) := by decide +kernel
theorem dX4_set_24 : decode cX4_set 24 = .ok (.iload_n 3, 1) := by decide +kernel
theorem dX4_set_25 : decode cX4_set 25 = .ok (.iastore, 1) := by decide +kernel
theorem dX4_set_26 : decode cX4_set 26 = .ok (.return_, 1) := by decide +kernel
theorem dX4_remove_0 : decode cX4_remove 0 = .ok (.aload_n 0, 1) := by decide +kernel
theorem dX4_remove_1 : decode cX4_remove 1 = .ok (.iconst 0, 1) := by decide +kernel
theorem dX4_remove_2 : decode cX4_remove 2 = .ok (.iload_n 1, 1) := by decide +kernel
theorem dX4_remove_3 : decode cX4_remove 3 = .ok (.iadd, 1) := by decide +kernel
theorem dX4_remove_4 : decode cX4_remove 4 = .ok (.iconst 0, 1) := by decide +kernel
theorem dX4_remove_5 : decode cX4_remove 5 = .ok (.iastore, 1) := by decide +kernel
theorem dX4_remove_6 : decode cX4_remove 6 = .ok (.aload_n 0, 1) := by decide +kernel
theorem dX4_remove_7 : decode cX4_remove 7 = .ok (.bipush 32, 2) := by decide +kernel
theorem dX4_remove_9 : decode cX4_remove 9 = .ok (.iload_n 1, 1) := by decide +kernel
theorem dX4_remove_10 : decode cX4_remove 10 = .ok (.iadd, 1) := by decide +kernel
theorem dX4_remove_11 : decode cX4_remove 11 = .ok (.iconst 0, 1) := by decide +kernel
theorem dX4_remove_12 : decode cX4_remove 12 = .ok (.iastore, 1) := by decide +kernel
theorem dX4_remove_13 : decode cX4_remove 13 = .ok (.aload_n 0, 1) := by decide +kernel
theorem dX4_remove_14 : decode cX4_remove 14 = .ok (.bipush 64, 2) := by decide +kernel
theorem dX4_remove_16 : decode cX4_remove 16 = .ok (.iload_n 1, 1) := by decide +kernel
theorem dX4_remove_17 : decode cX4_remove 17 = .ok (.iadd, 1) := by decide +kernel
theorem dX4_remove_18 : decode cX4_remove 18 = .ok (.iconst 0, 1) := by decide +kernel
theorem dX4_remove_19 : decode cX4_remove 19 = .ok (.iastore, 1) := by decide +kernel
theorem dX4_remove_20 : decode cX4_remove 20 = .ok (.iconst 0, 1) := by decide +kernel
theorem dX4_remove_21 : decode cX4_remove 21 = .ok (.istore_n 2, 1) := by decide +kernel
theorem dX4_remove_22 : decode cX4_remove 22 = .ok (.iload_n 2, 1) := by decide +kernel
theorem dX4_remove_23 : decode cX4_remove 23 = .ok (.bipush 20, 2) := by decide +kernel
theorem dX4_remove_25 : decode cX4_remove 25 = .ok (.if_icmp .ge 22, 3) := by decide +kernel
theorem dX4_remove_28 : decode cX4_remove 28 = .ok (.aload_n 0, 1) := by decide +kernel
theorem dX4_remove_29 : decode cX4_remove 29 = .ok (.sipush 192, 3) := by decide +kernel
theorem dX4_remove_32 : decode cX4_remove 32 = .ok (.iload_n 1, 1) := by decide +kernel
theorem dX4_remove_33 : decode cX4_remove 33 = .ok (.bipush 20, 2) := by decide +kernel
theorem dX4_remove_35 : decode cX4_remove 35 = .ok (.imul, 1) := by decide +kernel
theorem dX4_remove_36 : decode cX4_remove 36 = .ok (.iadd, 1) := by decide +kernel
theorem dX4_remove_37 : decode cX4_remove 37 = .ok (.iload_n 2, 1) := by decide +kernel
theorem dX4_remove_38 : decode cX4_remove 38 = .ok (.iadd, 1) := by decide +kernel
theorem dX4_remove_39 : decode cX4_remove 39 = .ok (.iconst 0, 1) := by decide +kernel
theorem dX4_remove_40 : decode cX4_remove 40 = .ok (.iastore, 1) := by decide +kernel
theorem dX4_remove_41 : decode cX4_remove 41 = .ok (.iinc 2 1, 3) := by decide +kernel
theorem dX4_remove_44 : decode cX4_remove 44 = .ok (.goto (-22), 3) := by decide +kernel
theorem dX4_remove_47 : decode cX4_remove 47 = .ok (.iconst 0, 1) := by decide +kernel
theorem dX4_remove_48 : decode cX4_remove 48 = .ok (.istore_n 2, 1) := by decide +kernel
theorem dX4_remove_49 : decode cX4_remove 49 = .ok (.iload_n 2, 1) := by decide +kernel
theorem dX4_remove_50 : decode cX4_remove 50 = .ok (.bipush 12, 2) := by decide +kernel
theorem dX4_remove_52 : decode cX4_remove 52 = .ok (.if_icmp .ge 35, 3) := by decide +kernel
theorem dX4_remove_55 : decode cX4_remove 55 = .ok (.aload_n 0, 1) := by decide +kernel
theorem dX4_remove_56 : decode cX4_remove 56 = .ok (.sipush 832, 3) := by decide +kernel
theorem dX4_remove_59 : decode cX4_remove 59 = .ok (.iload_n 1, 1) := by decide +kernel
theorem dX4_remove_60 : decode cX4_remove 60 = .ok (.bipush 12, 2) := by decide +kernel
theorem dX4_remove_62 : decode cX4_remove 62 = .ok (.imul, 1) := by decide +kernel
theorem dX4_remove_63 : decode cX4_remove 63 = .ok (.iadd, 1) := by decide +kernel
theorem dX4_remove_64 : decode cX4_remove 64 = .ok (.iload_n 2, 1) := by decide +kernel
theorem dX4_remove_65 : decode cX4_remove 65 = .ok (.iadd, 1) := by decide +kernel
theorem dX4_remove_66 : decode cX4_remove 66 = .ok (.iconst 0, 1) := by decide +kernel
theorem dX4_remove_67 : decode cX4_remove 67 = .ok (.iastore, 1) := by decide +kernel
theorem dX4_remove_68 : decode cX4_remove 68 = .ok (.aload_n 0, 1) := by decide +kernel
theorem dX4_remove_69 : decode cX4_remove 69 = .ok (.sipush 1216, 3) := by decide +kernel
theorem dX4_remove_72 : decode cX4_remove 72 = .ok (.iload_n 1, 1) := by decide +kernel
theorem dX4_remove_73 : decode cX4_remove 73 = .ok (.bipush 12, 2) := by decide +kernel
theorem dX4_remove_75 : decode cX4_remove 75 = .ok (.imul, 1) := by decide +kernel
theorem dX4_remove_76 : decode cX4_remove 76 = .ok (.iadd, 1) := by decide +kernel
theorem dX4_remove_77 : decode cX4_remove 77 = .ok (.iload_n 2, 1) := by decide +kernel
theorem dX4_remove_78 : decode cX4_remove 78 = .ok (.iadd, 1) := by decide +kernel
theorem dX4_remove_79 : decode cX4_remove 79 = .ok (.iconst 0, 1) := by decide +kernel
theorem dX4_remove_80 : decode cX4_remove 80 = .ok (.iastore, 1) := by decide +kernel
theorem dX4_remove_81 : decode cX4_remove 81 = .ok (.iinc 2 1, 3) := by decide +kernel
theorem dX4_remove_84 : decode cX4_remove 84 = .ok (.goto (-35), 3) := by decide +kernel
theorem dX4_remove_87 : decode cX4_remove 87 = .ok (.return_, 1) := by decide +kernel
theorem dX4_opens_0 : decode cX4_opens 0 = .ok (.iconst 0, 1) := by decide +kernel
theorem dX4_opens_1 : decode cX4_opens 1 = .ok (.istore_n 2, 1) := by decide +kernel
theorem dX4_opens_2 : decode cX4_opens 2 = .ok (.iconst 0, 1) := by decide +kernel
theorem dX4_opens_3 : decode cX4_opens 3 = .ok (.istore_n 3, 1) := by decide +kernel
theorem dX4_opens_4 : decode cX4_opens 4 = .ok (.iload_n 3, 1) := by decide +kernel
theorem dX4_opens_5 : decode cX4_opens 5 = .ok (.bipush 6, 2) := by decide +kernel
theorem dX4_opens_7 : decode cX4_opens 7 = .ok (.if_icmp .ge 27, 3) := by decide +kernel
theorem dX4_opens_10 : decode cX4_opens 10 = .ok (.iload_n 2, 1) := by decide +kernel
theorem dX4_opens_11 : decode cX4_opens 11 = .ok (.aload_n 0, 1) := by decide +kernel
theorem dX4_opens_12 : decode cX4_opens 12 = .ok (.getfield 19, 3) := by decide +kernel
theorem dX4_opens_15 : decode cX4_opens 15 = .ok (.iload_n 3, 1) := by decide +kernel
theorem dX4_opens_16 : decode cX4_opens 16 = .ok (.iaload, 1) := by decide +kernel
theorem dX4_opens_17 : decode cX4_opens 17 = .ok (.iload_n 1, 1) := by decide +kernel
theorem dX4_opens_18 : decode cX4_opens 18 = .ok (.if_icmp .ne 7, 3) := by decide +kernel
theorem dX4_opens_21 : decode cX4_opens 21 = .ok (.iconst 1, 1) := by decide +kernel
theorem dX4_opens_22 : decode cX4_opens 22 = .ok (.goto 4, 3) := by decide +kernel
theorem dX4_opens_25 : decode cX4_opens 25 = .ok (.iconst 0, 1) := by decide +kernel
theorem dX4_opens_26 : decode cX4_opens 26 = .ok (.iadd, 1) := by decide +kernel
theorem dX4_opens_27 : decode cX4_opens 27 = .ok (.istore_n 2, 1) := by decide +kernel
theorem dX4_opens_28 : decode cX4_opens 28 = .ok (.iinc 3 1, 3) := by decide +kernel
theorem dX4_opens_31 : decode cX4_opens 31 = .ok (.goto (-27), 3) := by decide +kernel
theorem dX4_opens_34 : decode cX4_opens 34 = .ok (.iload_n 2, 1) := by decide +kernel
theorem dX4_opens_35 : decode cX4_opens 35 = .ok (.ireturn, 1) := by decide +kernel
theorem dX4_lessen_0 : decode cX4_lessen 0 = .ok (.aload_n 0, 1) := by decide +kernel
theorem dX4_lessen_1 : decode cX4_lessen 1 = .ok (.getfield 16, 3) := by decide +kernel
theorem dX4_lessen_4 : decode cX4_lessen 4 = .ok (.iload_n 1, 1) := by decide +kernel
theorem dX4_lessen_5 : decode cX4_lessen 5 = .ok (.invokestatic 89, 3) := by decide +kernel
theorem dX4_lessen_8 : decode cX4_lessen 8 = .ok (.ifCond .gt 7, 3) := by decide +kernel
theorem dX4_lessen_11 : decode cX4_lessen 11 = .ok (.iload_n 1, 1) := by decide +kernel
theorem dX4_lessen_12 : decode cX4_lessen 12 = .ok (.ifCond .ne 4, 3) := by decide +kernel
theorem dX4_lessen_15 : decode cX4_lessen 15 = .ok (.return_, 1) := by decide +kernel
theorem dX4_lessen_16 : decode cX4_lessen 16 = .ok (.aload_n 0, 1) := by decide +kernel
theorem dX4_lessen_17 : decode cX4_lessen 17 = .ok (.getfield 16, 3) := by decide +kernel
theorem dX4_lessen_20 : decode cX4_lessen 20 = .ok (.iload_n 1, 1) := by decide +kernel
theorem dX4_lessen_21 : decode cX4_lessen 21 = .ok (.iconst 1, 1) := by decide +kernel
theorem dX4_lessen_22 : decode cX4_lessen 22 = .ok (.invokestatic 61, 3) := by decide +kernel
theorem dX4_lessen_25 : decode cX4_lessen 25 = .ok (.ifCond .eq 11, 3) := by decide +kernel
theorem dX4_lessen_28 : decode cX4_lessen 28 = .ok (.aload_n 0, 1) := by decide +kernel
theorem dX4_lessen_29 : decode cX4_lessen 29 = .ok (.iload_n 1, 1) := by decide +kernel
theorem dX4_lessen_30 : decode cX4_lessen 30 = .ok (.invokevirtual 92, 3) := by decide +kernel
theorem dX4_lessen_33 : decode cX4_lessen 33 = .ok (.ifCond .ne 11, 3) := by decide +kernel
theorem dX4_lessen_36 : decode cX4_lessen 36 = .ok (.aload_n 0, 1) := by decide +kernel
theorem dX4_lessen_37 : decode cX4_lessen 37 = .ok (.getfield 16, 3) := by decide +kernel
theorem dX4_lessen_40 : decode cX4_lessen 40 = .ok (.iload_n 1, 1) := by decide +kernel
theorem dX4_lessen_41 : decode cX4_lessen 41 = .ok (.invokestatic 95, 3) := by decide +kernel
theorem dX4_lessen_44 : decode cX4_lessen 44 = .ok (.return_, 1) := by decide +kernel
theorem dX4_begin_0 : decode cX4_begin 0 = .ok (.aload_n 0, 1) := by decide +kernel
theorem dX4_begin_1 : decode cX4_begin 1 = .ok (.getfield 9, 3) := by decide +kernel
theorem dX4_begin_4 : decode cX4_begin 4 = .ok (.iconst 0, 1) := by decide +kernel
theorem dX4_begin_5 : decode cX4_begin 5 = .ok (.aload_n 0, 1) := by decide +kernel
theorem dX4_begin_6 : decode cX4_begin 6 = .ok (.getfield 16, 3) := by decide +kernel
theorem dX4_begin_9 : decode cX4_begin 9 = .ok (.iconst 0, 1) := by decide +kernel
theorem dX4_begin_10 : decode cX4_begin 10 = .ok (.sipush 4805, 3) := by decide +kernel
theorem dX4_begin_13 : decode cX4_begin 13 = .ok (.invokestatic 32, 3) := by decide +kernel
theorem dX4_begin_16 : decode cX4_begin 16 = .ok (.return_, 1) := by decide +kernel
theorem dX4_hinders_0 : decode cX4_hinders 0 = .ok (.aload_n 0, 1) := by decide +kernel
theorem dX4_hinders_1 : decode cX4_hinders 1 = .ok (.getfield 16, 3) := by decide +kernel
theorem dX4_hinders_4 : decode cX4_hinders 4 = .ok (.invokestatic 99, 3) := by decide +kernel
theorem dX4_hinders_7 : decode cX4_hinders 7 = .ok (.bipush 120, 2) := by decide +kernel
theorem dX4_hinders_9 : decode cX4_hinders 9 = .ok (.if_icmp .le 6, 3) := by decide +kernel
theorem dX4_hinders_12 : decode cX4_hinders 12 = .ok (.bipush (-7), 2) := by decide +kernel
theorem dX4_hinders_14 : decode cX4_hinders 14 = .ok (.ireturn, 1) := by decide +kernel
theorem dX4_hinders_15 : decode cX4_hinders 15 = .ok (.iconst 0, 1) := by decide +kernel
theorem dX4_hinders_16 : decode cX4_hinders 16 = .ok (.istore_n 1, 1) := by decide +kernel
theorem dX4_hinders_17 : decode cX4_hinders 17 = .ok (.iload_n 1, 1) := by decide +kernel
theorem dX4_hinders_18 : decode cX4_hinders 18 = .ok (.iconst 4, 1) := by decide +kernel
theorem dX4_hinders_19 : decode cX4_hinders 19 = .ok (.if_icmp .ge 47, 3) := by decide +kernel
theorem dX4_hinders_22 : decode cX4_hinders 22 = .ok (.aload_n 0, 1) := by decide +kernel
theorem dX4_hinders_23 : decode cX4_hinders 23 = .ok (.getfield 16, 3) := by decide +kernel
theorem dX4_hinders_26 : decode cX4_hinders 26 = .ok (.iload_n 1, 1) := by decide +kernel
theorem dX4_hinders_27 : decode cX4_hinders 27 = .ok (.invokestatic 103, 3) := by decide +kernel
theorem dX4_hinders_30 : decode cX4_hinders 30 = .ok (.istore_n 2, 1) := by decide +kernel
theorem dX4_hinders_31 : decode cX4_hinders 31 = .ok (.iload_n 2, 1) := by decide +kernel
theorem dX4_hinders_32 : decode cX4_hinders 32 = .ok (.aload_n 0, 1) := by decide +kernel
theorem dX4_hinders_33 : decode cX4_hinders 33 = .ok (.getfield 9, 3) := by decide +kernel
theorem dX4_hinders_36 : decode cX4_hinders 36 = .ok (.sipush 1600, 3) := by decide +kernel
theorem dX4_hinders_39 : decode cX4_hinders 39 = .ok (.iload_n 1, 1) := by decide +kernel
theorem dX4_hinders_40 : decode cX4_hinders 40 = .ok (.iadd, 1) := by decide +kernel
theorem dX4_hinders_41 : decode cX4_hinders 41 = .ok (.iaload, 1) := by decide +kernel
theorem dX4_hinders_42 : decode cX4_hinders 42 = .ok (.if_icmp .le 18, 3) := by decide +kernel
theorem dX4_hinders_45 : decode cX4_hinders 45 = .ok (.iload_n 2, 1) := by decide +kernel
theorem dX4_hinders_46 : decode cX4_hinders 46 = .ok (.aload_n 0, 1) := by decide +kernel
theorem dX4_hinders_47 : decode cX4_hinders 47 = .ok (.getfield 9, 3) := by decide +kernel
theorem dX4_hinders_50 : decode cX4_hinders 50 = .ok (.iload_n 1, 1) := by decide +kernel
theorem dX4_hinders_51 : decode cX4_hinders 51 = .ok (.invokestatic 103, 3) := by decide +kernel
theorem dX4_hinders_54 : decode cX4_hinders 54 = .ok (.if_icmp .le 6, 3) := by decide +kernel
theorem dX4_hinders_57 : decode cX4_hinders 57 = .ok (.bipush (-8), 2) := by decide +kernel
theorem dX4_hinders_59 : decode cX4_hinders 59 = .ok (.ireturn, 1) := by decide +kernel
theorem dX4_hinders_60 : decode cX4_hinders 60 = .ok (.iinc 1 1, 3) := by decide +kernel
theorem dX4_hinders_63 : decode cX4_hinders 63 = .ok (.goto (-46), 3) := by decide +kernel
theorem dX4_hinders_66 : decode cX4_hinders 66 = .ok (.iconst 0, 1) := by decide +kernel
theorem dX4_hinders_67 : decode cX4_hinders 67 = .ok (.ireturn, 1) := by decide +kernel
theorem dX4_done_0 : decode cX4_done 0 = .ok (.aload_n 0, 1) := by decide +kernel
theorem dX4_done_1 : decode cX4_done 1 = .ok (.getfield 16, 3) := by decide +kernel
theorem dX4_done_4 : decode cX4_done 4 = .ok (.sipush 1604, 3) := by decide +kernel
theorem dX4_done_7 : decode cX4_done 7 = .ok (.dup2, 1) := by decide +kernel
theorem dX4_done_8 : decode cX4_done 8 = .ok (.iaload, 1) := by decide +kernel
theorem dX4_done_9 : decode cX4_done 9 = .ok (.iconst 1, 1) := by decide +kernel
theorem dX4_done_10 : decode cX4_done 10 = .ok (.iadd, 1) := by decide +kernel
theorem dX4_done_11 : decode cX4_done 11 = .ok (.iastore, 1) := by decide +kernel
theorem dX4_done_12 : decode cX4_done 12 = .ok (.aload_n 0, 1) := by decide +kernel
theorem dX4_done_13 : decode cX4_done 13 = .ok (.getfield 16, 3) := by decide +kernel
theorem dX4_done_16 : decode cX4_done 16 = .ok (.iconst 0, 1) := by decide +kernel
theorem dX4_done_17 : decode cX4_done 17 = .ok (.aload_n 0, 1) := by decide +kernel
theorem dX4_done_18 : decode cX4_done 18 = .ok (.getfield 9, 3) := by decide +kernel
theorem dX4_done_21 : decode cX4_done 21 = .ok (.iconst 0, 1) := by decide +kernel
theorem dX4_done_22 : decode cX4_done 22 = .ok (.sipush 4805, 3) := by decide +kernel
theorem dX4_done_25 : decode cX4_done 25 = .ok (.invokestatic 32, 3) := by decide +kernel
theorem dX4_done_28 : decode cX4_done 28 = .ok (.aload_n 0, 1) := by decide +kernel
theorem dX4_done_29 : decode cX4_done 29 = .ok (.dup, 1) := by decide +kernel
theorem dX4_done_30 : decode cX4_done 30 = .ok (.getfield 106, 3) := by decide +kernel
theorem dX4_done_33 : decode cX4_done 33 = .ok (.iconst 1, 1) := by decide +kernel
theorem dX4_done_34 : decode cX4_done 34 = .ok (.iadd, 1) := by decide +kernel
theorem dX4_done_35 : decode cX4_done 35 = .ok (.putfield 106, 3) := by decide +kernel
theorem dX4_done_38 : decode cX4_done 38 = .ok (.aload_n 0, 1) := by decide +kernel
theorem dX4_done_39 : decode cX4_done 39 = .ok (.getfield 106, 3) := by decide +kernel
theorem dX4_done_42 : decode cX4_done 42 = .ok (.bipush 8, 2) := by decide +kernel
theorem dX4_done_44 : decode cX4_done 44 = .ok (.if_icmp .ne 15, 3) := by decide +kernel
theorem dX4_done_47 : decode cX4_done 47 = .ok (.aload_n 0, 1) := by decide +kernel
theorem dX4_done_48 : decode cX4_done 48 = .ok (.invokevirtual 109, 3) := by decide +kernel
theorem dX4_done_51 : decode cX4_done 51 = .ok (.ifCond .ne 8, 3) := by decide +kernel
theorem dX4_done_54 : decode cX4_done 54 = .ok (.bipush (-9), 2) := by decide +kernel
theorem dX4_done_56 : decode cX4_done 56 = .ok (.goto 4, 3) := by decide +kernel
theorem dX4_done_59 : decode cX4_done 59 = .ok (.iload_n 1, 1) := by decide +kernel
theorem dX4_done_60 : decode cX4_done 60 = .ok (.ireturn, 1) := by decide +kernel
theorem dX4_doneUnless_0 : decode cX4_doneUnless 0 = .ok (.iload_n 1, 1) := by decide +kernel
theorem dX4_doneUnless_1 : decode cX4_doneUnless 1 = .ok (.ifCond .ge 7, 3) := by decide +kernel
theorem dX4_doneUnless_4 : decode cX4_doneUnless 4 = .ok (.iload_n 1, 1) := by decide +kernel
theorem dX4_doneUnless_5 : decode cX4_doneUnless 5 = .ok (.goto 8, 3) := by decide +kernel
theorem dX4_doneUnless_8 : decode cX4_doneUnless 8 = .ok (.aload_n 0, 1) := by decide +kernel
theorem dX4_doneUnless_9 : decode cX4_doneUnless 9 = .ok (.iload_n 2, 1) := by decide +kernel
theorem dX4_doneUnless_10 : decode cX4_doneUnless 10 = .ok (.invokevirtual 113, 3) := by decide +kernel
theorem dX4_doneUnless_13 : decode cX4_doneUnless 13 = .ok (.ireturn, 1) := by decide +kernel
theorem dX4_fall_0 : decode cX4_fall 0 = .ok (.aload_n 0, 1) := by decide +kernel
theorem dX4_fall_1 : decode cX4_fall 1 = .ok (.iconst 1, 1) := by decide +kernel
theorem dX4_fall_2 : decode cX4_fall 2 = .ok (.putfield 41, 3) := by decide +kernel
theorem dX4_fall_5 : decode cX4_fall 5 = .ok (.aload_n 0, 1) := by decide +kernel
theorem dX4_fall_6 : decode cX4_fall 6 = .ok (.iconst 0, 1) := by decide +kernel
theorem dX4_fall_7 : decode cX4_fall 7 = .ok (.putfield 106, 3) := by decide +kernel
theorem dX4_fall_10 : decode cX4_fall 10 = .ok (.iconst 0, 1) := by decide +kernel
theorem dX4_fall_11 : decode cX4_fall 11 = .ok (.istore_n 1, 1) := by decide +kernel
theorem dX4_fall_12 : decode cX4_fall 12 = .ok (.iload_n 1, 1) := by decide +kernel
theorem dX4_fall_13 : decode cX4_fall 13 = .ok (.bipush 6, 2) := by decide +kernel
theorem dX4_fall_15 : decode cX4_fall 15 = .ok (.if_icmp .ge 14, 3) := by decide +kernel
theorem dX4_fall_18 : decode cX4_fall 18 = .ok (.aload_n 0, 1) := by decide +kernel
theorem dX4_fall_19 : decode cX4_fall 19 = .ok (.iload_n 1, 1) := by decide +kernel
theorem dX4_fall_20 : decode cX4_fall 20 = .ok (.invokevirtual 116, 3) := by decide +kernel
theorem dX4_fall_23 : decode cX4_fall 23 = .ok (.iinc 1 1, 3) := by decide +kernel
theorem dX4_fall_26 : decode cX4_fall 26 = .ok (.goto (-14), 3) := by decide +kernel
theorem dX4_fall_29 : decode cX4_fall 29 = .ok (.return_, 1) := by decide +kernel
theorem dX4_closeHandle_0 : decode cX4_closeHandle 0 = .ok (.aload_n 0, 1) := by decide +kernel
theorem dX4_closeHandle_1 : decode cX4_closeHandle 1 = .ok (.getfield 19, 3) := by decide +kernel
theorem dX4_closeHandle_4 : decode cX4_closeHandle 4 = .ok (.iload_n 1, 1) := by decide +kernel
theorem dX4_closeHandle_5 : decode cX4_closeHandle 5 = .ok (.iconst (-1), 1) := by decide +kernel
theorem dX4_closeHandle_6 : decode cX4_closeHandle 6 = .ok (.iastore, 1) := by decide +kernel
theorem dX4_closeHandle_7 : decode cX4_closeHandle 7 = .ok (.aload_n 0, 1) := by decide +kernel
theorem dX4_closeHandle_8 : decode cX4_closeHandle 8 = .ok (.getfield 22, 3) := by decide +kernel
theorem dX4_closeHandle_11 : decode cX4_closeHandle 11 = .ok (.iload_n 1, 1) := by decide +kernel
theorem dX4_closeHandle_12 : decode cX4_closeHandle 12 = .ok (.iconst 0, 1) := by decide +kernel
theorem dX4_closeHandle_13 : decode cX4_closeHandle 13 = .ok (.iastore, 1) := by decide +kernel
theorem dX4_closeHandle_14 : decode cX4_closeHandle 14 = .ok (.iconst 0, 1) := by decide +kernel
theorem dX4_closeHandle_15 : decode cX4_closeHandle 15 = .ok (.istore_n 2, 1) := by decide +kernel
theorem dX4_closeHandle_16 : decode cX4_closeHandle 16 = .ok (.iload_n 2, 1) := by decide +kernel
theorem dX4_closeHandle_17 : decode cX4_closeHandle 17 = .ok (.sipush 320, 3) := by decide +kernel
theorem dX4_closeHandle_20 : decode cX4_closeHandle 20 = .ok (.if_icmp .ge 22, 3) := by decide +kernel
theorem dX4_closeHandle_23 : decode cX4_closeHandle 23 = .ok (.aload_n 0, 1) := by decide +kernel
theorem dX4_closeHandle_24 : decode cX4_closeHandle 24 = .ok (.getfield 25, 3) := by decide +kernel
theorem dX4_closeHandle_27 : decode cX4_closeHandle 27 = .ok (.iload_n 1, 1) := by decide +kernel
theorem dX4_closeHandle_28 : decode cX4_closeHandle 28 = .ok (.sipush 320, 3) := by decide +kernel
theorem dX4_closeHandle_31 : decode cX4_closeHandle 31 = .ok (.imul, 1) := by decide +kernel
theorem dX4_closeHandle_32 : decode cX4_closeHandle 32 = .ok (.iload_n 2, 1) := by decide +kernel
theorem dX4_closeHandle_33 : decode cX4_closeHandle 33 = .ok (.iadd, 1) := by decide +kernel
theorem dX4_closeHandle_34 : decode cX4_closeHandle 34 = .ok (.iconst 0, 1) := by decide +kernel
theorem dX4_closeHandle_35 : decode cX4_closeHandle 35 = .ok (.iastore, 1) := by decide +kernel
theorem dX4_closeHandle_36 : decode cX4_closeHandle 36 = .ok (.iinc 2 1, 3) := by decide +kernel
theorem dX4_closeHandle_39 : decode cX4_closeHandle 39 = .ok (.goto (-23), 3) := by decide +kernel
theorem dX4_closeHandle_42 : decode cX4_closeHandle 42 = .ok (.return_, 1) := by decide +kernel
theorem dX4_falls_0 : decode cX4_falls 0 = .ok (.aload_n 0, 1) := by decide +kernel
theorem dX4_falls_1 : decode cX4_falls 1 = .ok (.getfield 28, 3) := by decide +kernel
theorem dX4_falls_4 : decode cX4_falls 4 = .ok (.iload_n 1, 1) := by decide +kernel
theorem dX4_falls_5 : decode cX4_falls 5 = .ok (.if_icmp .eq 5, 3) := by decide +kernel
theorem dX4_falls_8 : decode cX4_falls 8 = .ok (.iconst 0, 1) := by decide +kernel
theorem dX4_falls_9 : decode cX4_falls 9 = .ok (.ireturn, 1) := by decide +kernel
theorem dX4_falls_10 : decode cX4_falls 10 = .ok (.aload_n 0, 1) := by decide +kernel
theorem dX4_falls_11 : decode cX4_falls 11 = .ok (.iconst (-1), 1) := by decide +kernel
theorem dX4_falls_12 : decode cX4_falls 12 = .ok (.putfield 28, 3) := by decide +kernel
theorem dX4_falls_15 : decode cX4_falls 15 = .ok (.iconst 1, 1) := by decide +kernel
theorem dX4_falls_16 : decode cX4_falls 16 = .ok (.ireturn, 1) := by decide +kernel
theorem dX4_isCommitted_0 : decode cX4_isCommitted 0 = .ok (.aload_n 0, 1) := by decide +kernel
theorem dX4_isCommitted_1 : decode cX4_isCommitted 1 = .ok (.iconst 0, 1) := by decide +kernel
theorem dX4_isCommitted_2 : decode cX4_isCommitted 2 = .ok (.invokevirtual 120, 3) := by decide +kernel
theorem dX4_isCommitted_5 : decode cX4_isCommitted 5 = .ok (.ifCond .eq 9, 3) := by decide +kernel
theorem dX4_isCommitted_8 : decode cX4_isCommitted 8 = .ok (.aload_n 0, 1) := by decide +kernel
theorem dX4_isCommitted_9 : decode cX4_isCommitted 9 = .ok (.invokevirtual 123, 3) := by decide +kernel
theorem dX4_isCommitted_12 : decode cX4_isCommitted 12 = .ok (.iconst 0, 1) := by decide +kernel
theorem dX4_isCommitted_13 : decode cX4_isCommitted 13 = .ok (.ireturn, 1) := by decide +kernel
theorem dX4_isCommitted_14 : decode cX4_isCommitted 14 = .ok (.aload_n 0, 1) := by decide +kernel
theorem dX4_isCommitted_15 : decode cX4_isCommitted 15 = .ok (.iconst 1, 1) := by decide +kernel
theorem dX4_isCommitted_16 : decode cX4_isCommitted 16 = .ok (.invokevirtual 120, 3) := by decide +kernel
theorem dX4_isCommitted_19 : decode cX4_isCommitted 19 = .ok (.istore_n 1, 1) := by decide +kernel
theorem dX4_isCommitted_20 : decode cX4_isCommitted 20 = .ok (.iload_n 1, 1) := by decide +kernel
theorem dX4_isCommitted_21 : decode cX4_isCommitted 21 = .ok (.ifCond .eq 12, 3) := by decide +kernel
theorem dX4_isCommitted_24 : decode cX4_isCommitted 24 = .ok (.aload_n 0, 1) := by decide +kernel
theorem dX4_isCommitted_25 : decode cX4_isCommitted 25 = .ok (.getfield 126, 3) := by decide +kernel
theorem dX4_isCommitted_28 : decode cX4_isCommitted 28 = .ok (.bipush 32, 2) := by decide +kernel
theorem dX4_isCommitted_30 : decode cX4_isCommitted 30 = .ok (.if_icmp .lt 24, 3) := by decide +kernel
theorem dX4_isCommitted_33 : decode cX4_isCommitted 33 = .ok (.aload_n 0, 1) := by decide +kernel
theorem dX4_isCommitted_34 : decode cX4_isCommitted 34 = .ok (.getfield 9, 3) := by decide +kernel
theorem dX4_isCommitted_37 : decode cX4_isCommitted 37 = .ok (.iconst 0, 1) := by decide +kernel
theorem dX4_isCommitted_38 : decode cX4_isCommitted 38 = .ok (.aload_n 0, 1) := by decide +kernel
theorem dX4_isCommitted_39 : decode cX4_isCommitted 39 = .ok (.getfield 13, 3) := by decide +kernel
theorem dX4_isCommitted_42 : decode cX4_isCommitted 42 = .ok (.iconst 0, 1) := by decide +kernel
theorem dX4_isCommitted_43 : decode cX4_isCommitted 43 = .ok (.sipush 4805, 3) := by decide +kernel
theorem dX4_isCommitted_46 : decode cX4_isCommitted 46 = .ok (.invokestatic 32, 3) := by decide +kernel
theorem dX4_isCommitted_49 : decode cX4_isCommitted 49 = .ok (.aload_n 0, 1) := by decide +kernel
theorem dX4_isCommitted_50 : decode cX4_isCommitted 50 = .ok (.iconst 0, 1) := by decide +kernel
theorem dX4_isCommitted_51 : decode cX4_isCommitted 51 = .ok (.putfield 106, 3) := by decide +kernel
theorem dX4_isCommitted_54 : decode cX4_isCommitted 54 = .ok (.iload_n 1, 1) := by decide +kernel
theorem dX4_isCommitted_55 : decode cX4_isCommitted 55 = .ok (.ifCond .eq 7, 3) := by decide +kernel
theorem dX4_isCommitted_58 : decode cX4_isCommitted 58 = .ok (.aload_n 0, 1) := by decide +kernel
theorem dX4_isCommitted_59 : decode cX4_isCommitted 59 = .ok (.invokevirtual 123, 3) := by decide +kernel
theorem dX4_isCommitted_62 : decode cX4_isCommitted 62 = .ok (.iload_n 1, 1) := by decide +kernel
theorem dX4_isCommitted_63 : decode cX4_isCommitted 63 = .ok (.ifCond .ne 7, 3) := by decide +kernel
theorem dX4_isCommitted_66 : decode cX4_isCommitted 66 = .ok (.iconst 1, 1) := by decide +kernel
theorem dX4_isCommitted_67 : decode cX4_isCommitted 67 = .ok (.goto 4, 3) := by decide +kernel
theorem dX4_isCommitted_70 : decode cX4_isCommitted 70 = .ok (.iconst 0, 1) := by decide +kernel
theorem dX4_isCommitted_71 : decode cX4_isCommitted 71 = .ok (.ireturn, 1) := by decide +kernel
theorem dX4_isName_0 : decode cX4_isName 0 = .ok (.iload_n 0, 1) := by decide +kernel
theorem dX4_isName_1 : decode cX4_isName 1 = .ok (.iconst 1, 1) := by decide +kernel
theorem dX4_isName_2 : decode cX4_isName 2 = .ok (.bipush 99, 2) := by decide +kernel
theorem dX4_isName_4 : decode cX4_isName 4 = .ok (.invokestatic 49, 3) := by decide +kernel
theorem dX4_isName_7 : decode cX4_isName 7 = .ok (.ireturn, 1) := by decide +kernel
theorem dX4_isRefused_0 : decode cX4_isRefused 0 = .ok (.aload_n 0, 1) := by decide +kernel
theorem dX4_isRefused_1 : decode cX4_isRefused 1 = .ok (.invokevirtual 129, 3) := by decide +kernel
theorem dX4_isRefused_4 : decode cX4_isRefused 4 = .ok (.ifCond .eq 5, 3) := by decide +kernel
theorem dX4_isRefused_7 : decode cX4_isRefused 7 = .ok (.iconst 1, 1) := by decide +kernel
theorem dX4_isRefused_8 : decode cX4_isRefused 8 = .ok (.ireturn, 1) := by decide +kernel
theorem dX4_isRefused_9 : decode cX4_isRefused 9 = .ok (.aload_n 0, 1) := by decide +kernel
theorem dX4_isRefused_10 : decode cX4_isRefused 10 = .ok (.iload_n 1, 1) := by decide +kernel
theorem dX4_isRefused_11 : decode cX4_isRefused 11 = .ok (.invokevirtual 132, 3) := by decide +kernel
theorem dX4_isRefused_14 : decode cX4_isRefused 14 = .ok (.ifCond .ne 9, 3) := by decide +kernel
theorem dX4_isRefused_17 : decode cX4_isRefused 17 = .ok (.aload_n 0, 1) := by decide +kernel
theorem dX4_isRefused_18 : decode cX4_isRefused 18 = .ok (.iconst 2, 1) := by decide +kernel
theorem dX4_isRefused_19 : decode cX4_isRefused 19 = .ok (.invokevirtual 45, 3) := by decide +kernel
theorem dX4_isRefused_22 : decode cX4_isRefused 22 = .ok (.ireturn, 1) := by decide +kernel
theorem dX4_isRefused_23 : decode cX4_isRefused 23 = .ok (.iload_n 2, 1) := by decide +kernel
theorem dX4_isRefused_24 : decode cX4_isRefused 24 = .ok (.invokestatic 135, 3) := by decide +kernel
theorem dX4_isRefused_27 : decode cX4_isRefused 27 = .ok (.ifCond .ne 15, 3) := by decide +kernel
theorem dX4_isRefused_30 : decode cX4_isRefused 30 = .ok (.aload_n 0, 1) := by decide +kernel
theorem dX4_isRefused_31 : decode cX4_isRefused 31 = .ok (.iconst 3, 1) := by decide +kernel
theorem dX4_isRefused_32 : decode cX4_isRefused 32 = .ok (.invokevirtual 45, 3) := by decide +kernel
theorem dX4_isRefused_35 : decode cX4_isRefused 35 = .ok (.ifCond .eq 7, 3) := by decide +kernel
theorem dX4_isRefused_38 : decode cX4_isRefused 38 = .ok (.iconst 1, 1) := by decide +kernel
theorem dX4_isRefused_39 : decode cX4_isRefused 39 = .ok (.goto 4, 3) := by decide +kernel
theorem dX4_isRefused_42 : decode cX4_isRefused 42 = .ok (.iconst 0, 1) := by decide +kernel
theorem dX4_isRefused_43 : decode cX4_isRefused 43 = .ok (.ireturn, 1) := by decide +kernel
theorem dX4_entryHinders_0 : decode cX4_entryHinders 0 = .ok (.aload_n 0, 1) := by decide +kernel
theorem dX4_entryHinders_1 : decode cX4_entryHinders 1 = .ok (.getfield 9, 3) := by decide +kernel
theorem dX4_entryHinders_4 : decode cX4_entryHinders 4 = .ok (.iload_n 1, 1) := by decide +kernel
theorem dX4_entryHinders_5 : decode cX4_entryHinders 5 = .ok (.iload_n 2, 1) := by decide +kernel
theorem dX4_entryHinders_6 : decode cX4_entryHinders 6 = .ok (.invokestatic 57, 3) := by decide +kernel
theorem dX4_entryHinders_9 : decode cX4_entryHinders 9 = .ok (.ifCond .lt 6, 3) := by decide +kernel
theorem dX4_entryHinders_12 : decode cX4_entryHinders 12 = .ok (.bipush (-2), 2) := by decide +kernel
theorem dX4_entryHinders_14 : decode cX4_entryHinders 14 = .ok (.ireturn, 1) := by decide +kernel
theorem dX4_entryHinders_15 : decode cX4_entryHinders 15 = .ok (.aload_n 0, 1) := by decide +kernel
theorem dX4_entryHinders_16 : decode cX4_entryHinders 16 = .ok (.getfield 9, 3) := by decide +kernel
theorem dX4_entryHinders_19 : decode cX4_entryHinders 19 = .ok (.iload_n 1, 1) := by decide +kernel
theorem dX4_entryHinders_20 : decode cX4_entryHinders 20 = .ok (.invokestatic 53, 3) := by decide +kernel
theorem dX4_entryHinders_23 : decode cX4_entryHinders 23 = .ok (.bipush 12, 2) := by decide +kernel
theorem dX4_entryHinders_25 : decode cX4_entryHinders 25 = .ok (.if_icmp .ne 8, 3) := by decide +kernel
theorem dX4_entryHinders_28 : decode cX4_entryHinders 28 = .ok (.bipush (-5), 2) := by decide +kernel
theorem dX4_entryHinders_30 : decode cX4_entryHinders 30 = .ok (.goto 4, 3) := by decide +kernel
theorem dX4_entryHinders_33 : decode cX4_entryHinders 33 = .ok (.iconst 0, 1) := by decide +kernel
theorem dX4_entryHinders_34 : decode cX4_entryHinders 34 = .ok (.ireturn, 1) := by decide +kernel
theorem dX4_newNode_0 : decode cX4_newNode 0 = .ok (.aload_n 0, 1) := by decide +kernel
theorem dX4_newNode_1 : decode cX4_newNode 1 = .ok (.invokevirtual 138, 3) := by decide +kernel
theorem dX4_newNode_4 : decode cX4_newNode 4 = .ok (.aload_n 0, 1) := by decide +kernel
theorem dX4_newNode_5 : decode cX4_newNode 5 = .ok (.getfield 16, 3) := by decide +kernel
theorem dX4_newNode_8 : decode cX4_newNode 8 = .ok (.invokestatic 141, 3) := by decide +kernel
theorem dX4_newNode_11 : decode cX4_newNode 11 = .ok (.istore 4, 2) := by decide +kernel
theorem dX4_newNode_13 : decode cX4_newNode 13 = .ok (.aload_n 0, 1) := by decide +kernel
theorem dX4_newNode_14 : decode cX4_newNode 14 = .ok (.getfield 16, 3) := by decide +kernel
theorem dX4_newNode_17 : decode cX4_newNode 17 = .ok (.iconst 0, 1) := by decide +kernel
theorem dX4_newNode_18 : decode cX4_newNode 18 = .ok (.iload 4, 2) := by decide +kernel
theorem dX4_newNode_20 : decode cX4_newNode 20 = .ok (.iadd, 1) := by decide +kernel
theorem dX4_newNode_21 : decode cX4_newNode 21 = .ok (.iload_n 3, 1) := by decide +kernel
theorem dX4_newNode_22 : decode cX4_newNode 22 = .ok (.iastore, 1) := by decide +kernel
theorem dX4_newNode_23 : decode cX4_newNode 23 = .ok (.aload_n 0, 1) := by decide +kernel
theorem dX4_newNode_24 : decode cX4_newNode 24 = .ok (.getfield 16, 3) := by decide +kernel
theorem dX4_newNode_27 : decode cX4_newNode 27 = .ok (.bipush 32, 2) := by decide +kernel
theorem dX4_newNode_29 : decode cX4_newNode 29 = .ok (.iload 4, 2) := by decide +kernel
theorem dX4_newNode_31 : decode cX4_newNode 31 = .ok (.iadd, 1) := by decide +kernel
theorem dX4_newNode_32 : decode cX4_newNode 32 = .ok (.aload_n 0, 1) := by decide +kernel
theorem dX4_newNode_33 : decode cX4_newNode 33 = .ok (.getfield 16, 3) := by decide +kernel
theorem dX4_newNode_36 : decode cX4_newNode 36 = .ok (.bipush 32, 2) := by decide +kernel
theorem dX4_newNode_38 : decode cX4_newNode 38 = .ok (.iload_n 1, 1) := by decide +kernel
theorem dX4_newNode_39 : decode cX4_newNode 39 = .ok (.iadd, 1) := by decide +kernel
theorem dX4_newNode_40 : decode cX4_newNode 40 = .ok (.iaload, 1) := by decide +kernel
theorem dX4_newNode_41 : decode cX4_newNode 41 = .ok (.iastore, 1) := by decide +kernel
theorem dX4_newNode_42 : decode cX4_newNode 42 = .ok (.aload_n 0, 1) := by decide +kernel
theorem dX4_newNode_43 : decode cX4_newNode 43 = .ok (.getfield 16, 3) := by decide +kernel
theorem dX4_newNode_46 : decode cX4_newNode 46 = .ok (.iload_n 1, 1) := by decide +kernel
theorem dX4_newNode_47 : decode cX4_newNode 47 = .ok (.iload_n 2, 1) := by decide +kernel
theorem dX4_newNode_48 : decode cX4_newNode 48 = .ok (.iload 4, 2) := by decide +kernel
theorem dX4_newNode_50 : decode cX4_newNode 50 = .ok (.invokestatic 144, 3) := by decide +kernel
theorem dX4_newNode_53 : decode cX4_newNode 53 = .ok (.iload 4, 2) := by decide +kernel
theorem dX4_newNode_55 : decode cX4_newNode 55 = .ok (.ireturn, 1) := by decide +kernel
theorem dX4_makeHinders_0 : decode cX4_makeHinders 0 = .ok (.aload_n 0, 1) := by decide +kernel
theorem dX4_makeHinders_1 : decode cX4_makeHinders 1 = .ok (.getfield 9, 3) := by decide +kernel
theorem dX4_makeHinders_4 : decode cX4_makeHinders 4 = .ok (.iload_n 1, 1) := by decide +kernel
theorem dX4_makeHinders_5 : decode cX4_makeHinders 5 = .ok (.iconst 2, 1) := by decide +kernel
theorem dX4_makeHinders_6 : decode cX4_makeHinders 6 = .ok (.invokestatic 61, 3) := by decide +kernel
theorem dX4_makeHinders_9 : decode cX4_makeHinders 9 = .ok (.ifCond .ne 6, 3) := by decide +kernel
theorem dX4_makeHinders_12 : decode cX4_makeHinders 12 = .ok (.bipush (-3), 2) := by decide +kernel
theorem dX4_makeHinders_14 : decode cX4_makeHinders 14 = .ok (.ireturn, 1) := by decide +kernel
theorem dX4_makeHinders_15 : decode cX4_makeHinders 15 = .ok (.aload_n 0, 1) := by decide +kernel
theorem dX4_makeHinders_16 : decode cX4_makeHinders 16 = .ok (.iload_n 1, 1) := by decide +kernel
theorem dX4_makeHinders_17 : decode cX4_makeHinders 17 = .ok (.iload_n 2, 1) := by decide +kernel
theorem dX4_makeHinders_18 : decode cX4_makeHinders 18 = .ok (.invokevirtual 148, 3) := by decide +kernel
theorem dX4_makeHinders_21 : decode cX4_makeHinders 21 = .ok (.istore_n 3, 1) := by decide +kernel
theorem dX4_makeHinders_22 : decode cX4_makeHinders 22 = .ok (.iload_n 3, 1) := by decide +kernel
theorem dX4_makeHinders_23 : decode cX4_makeHinders 23 = .ok (.ifCond .ne 18, 3) := by decide +kernel
theorem dX4_makeHinders_26 : decode cX4_makeHinders 26 = .ok (.aload_n 0, 1) := by decide +kernel
theorem dX4_makeHinders_27 : decode cX4_makeHinders 27 = .ok (.getfield 9, 3) := by decide +kernel
theorem dX4_makeHinders_30 : decode cX4_makeHinders 30 = .ok (.invokestatic 141, 3) := by decide +kernel
theorem dX4_makeHinders_33 : decode cX4_makeHinders 33 = .ok (.ifCond .ge 8, 3) := by decide +kernel
theorem dX4_makeHinders_36 : decode cX4_makeHinders 36 = .ok (.bipush (-5), 2) := by decide +kernel
theorem dX4_makeHinders_38 : decode cX4_makeHinders 38 = .ok (.goto 4, 3) := by decide +kernel
theorem dX4_makeHinders_41 : decode cX4_makeHinders 41 = .ok (.iload_n 3, 1) := by decide +kernel
theorem dX4_makeHinders_42 : decode cX4_makeHinders 42 = .ok (.ireturn, 1) := by decide +kernel
theorem dX4_make_0 : decode cX4_make 0 = .ok (.aload_n 0, 1) := by decide +kernel
theorem dX4_make_1 : decode cX4_make 1 = .ok (.iload_n 1, 1) := by decide +kernel
theorem dX4_make_2 : decode cX4_make 2 = .ok (.iload_n 2, 1) := by decide +kernel
theorem dX4_make_3 : decode cX4_make 3 = .ok (.invokevirtual 152, 3) := by decide +kernel
theorem dX4_make_6 : decode cX4_make 6 = .ok (.istore 4, 2) := by decide +kernel
theorem dX4_make_8 : decode cX4_make 8 = .ok (.iload 4, 2) := by decide +kernel
theorem dX4_make_10 : decode cX4_make 10 = .ok (.ifCond .ge 6, 3) := by decide +kernel
theorem dX4_make_13 : decode cX4_make 13 = .ok (.iload 4, 2) := by decide +kernel
theorem dX4_make_15 : decode cX4_make 15 = .ok (.ireturn, 1) := by decide +kernel
theorem dX4_make_16 : decode cX4_make 16 = .ok (.aload_n 0, 1) := by decide +kernel
theorem dX4_make_17 : decode cX4_make 17 = .ok (.iload_n 1, 1) := by decide +kernel
theorem dX4_make_18 : decode cX4_make 18 = .ok (.iload_n 2, 1) := by decide +kernel
theorem dX4_make_19 : decode cX4_make 19 = .ok (.iload_n 3, 1) := by decide +kernel
theorem dX4_make_20 : decode cX4_make 20 = .ok (.invokevirtual 155, 3) := by decide +kernel
theorem dX4_make_23 : decode cX4_make 23 = .ok (.istore 5, 2) := by decide +kernel
theorem dX4_make_25 : decode cX4_make 25 = .ok (.aload_n 0, 1) := by decide +kernel
theorem dX4_make_26 : decode cX4_make 26 = .ok (.aload_n 0, 1) := by decide +kernel
theorem dX4_make_27 : decode cX4_make 27 = .ok (.invokevirtual 159, 3) := by decide +kernel
theorem dX4_make_30 : decode cX4_make 30 = .ok (.iload 5, 2) := by decide +kernel
theorem dX4_make_32 : decode cX4_make 32 = .ok (.invokevirtual 163, 3) := by decide +kernel
theorem dX4_make_35 : decode cX4_make 35 = .ok (.ireturn, 1) := by decide +kernel
theorem dX4_makeFile_0 : decode cX4_makeFile 0 = .ok (.aload_n 0, 1) := by decide +kernel
theorem dX4_makeFile_1 : decode cX4_makeFile 1 = .ok (.iload_n 1, 1) := by decide +kernel
theorem dX4_makeFile_2 : decode cX4_makeFile 2 = .ok (.iload_n 2, 1) := by decide +kernel
theorem dX4_makeFile_3 : decode cX4_makeFile 3 = .ok (.invokevirtual 166, 3) := by decide +kernel
theorem dX4_makeFile_6 : decode cX4_makeFile 6 = .ok (.ifCond .eq 7, 3) := by decide +kernel
theorem dX4_makeFile_9 : decode cX4_makeFile 9 = .ok (.iconst 0, 1) := by decide +kernel
theorem dX4_makeFile_10 : decode cX4_makeFile 10 = .ok (.goto 10, 3) := by decide +kernel
theorem dX4_makeFile_13 : decode cX4_makeFile 13 = .ok (.aload_n 0, 1) := by decide +kernel
theorem dX4_makeFile_14 : decode cX4_makeFile 14 = .ok (.iload_n 1, 1) := by decide +kernel
theorem dX4_makeFile_15 : decode cX4_makeFile 15 = .ok (.iload_n 2, 1) := by decide +kernel
theorem dX4_makeFile_16 : decode cX4_makeFile 16 = .ok (.iconst 1, 1) := by decide +kernel
theorem dX4_makeFile_17 : decode cX4_makeFile 17 = .ok (.invokevirtual 170, 3) := by decide +kernel
theorem dX4_makeFile_20 : decode cX4_makeFile 20 = .ok (.ireturn, 1) := by decide +kernel
theorem dX4_makeFolder_0 : decode cX4_makeFolder 0 = .ok (.aload_n 0, 1) := by decide +kernel
theorem dX4_makeFolder_1 : decode cX4_makeFolder 1 = .ok (.iload_n 1, 1) := by decide +kernel
theorem dX4_makeFolder_2 : decode cX4_makeFolder 2 = .ok (.iload_n 2, 1) := by decide +kernel
theorem dX4_makeFolder_3 : decode cX4_makeFolder 3 = .ok (.invokevirtual 166, 3) := by decide +kernel
theorem dX4_makeFolder_6 : decode cX4_makeFolder 6 = .ok (.ifCond .eq 7, 3) := by decide +kernel
theorem dX4_makeFolder_9 : decode cX4_makeFolder 9 = .ok (.iconst 0, 1) := by decide +kernel
theorem dX4_makeFolder_10 : decode cX4_makeFolder 10 = .ok (.goto 10, 3) := by decide +kernel
theorem dX4_makeFolder_13 : decode cX4_makeFolder 13 = .ok (.aload_n 0, 1) := by decide +kernel
theorem dX4_makeFolder_14 : decode cX4_makeFolder 14 = .ok (.iload_n 1, 1) := by decide +kernel
theorem dX4_makeFolder_15 : decode cX4_makeFolder 15 = .ok (.iload_n 2, 1) := by decide +kernel
theorem dX4_makeFolder_16 : decode cX4_makeFolder 16 = .ok (.iconst 2, 1) := by decide +kernel
theorem dX4_makeFolder_17 : decode cX4_makeFolder 17 = .ok (.invokevirtual 170, 3) := by decide +kernel
theorem dX4_makeFolder_20 : decode cX4_makeFolder 20 = .ok (.ireturn, 1) := by decide +kernel
theorem dX4_makeLink_0 : decode cX4_makeLink 0 = .ok (.aload_n 0, 1) := by decide +kernel
theorem dX4_makeLink_1 : decode cX4_makeLink 1 = .ok (.iload_n 1, 1) := by decide +kernel
theorem dX4_makeLink_2 : decode cX4_makeLink 2 = .ok (.iload_n 2, 1) := by decide +kernel
theorem dX4_makeLink_3 : decode cX4_makeLink 3 = .ok (.invokevirtual 166, 3) := by decide +kernel
theorem dX4_makeLink_6 : decode cX4_makeLink 6 = .ok (.ifCond .eq 5, 3) := by decide +kernel
theorem dX4_makeLink_9 : decode cX4_makeLink 9 = .ok (.iconst 0, 1) := by decide +kernel
theorem dX4_makeLink_10 : decode cX4_makeLink 10 = .ok (.ireturn, 1) := by decide +kernel
theorem dX4_makeLink_11 : decode cX4_makeLink 11 = .ok (.iload_n 3, 1) := by decide +kernel
theorem dX4_makeLink_12 : decode cX4_makeLink 12 = .ok (.iconst (-1), 1) := by decide +kernel
theorem dX4_makeLink_13 : decode cX4_makeLink 13 = .ok (.iconst 3, 1) := by decide +kernel
theorem dX4_makeLink_14 : decode cX4_makeLink 14 = .ok (.invokestatic 49, 3) := by decide +kernel
theorem dX4_makeLink_17 : decode cX4_makeLink 17 = .ok (.ifCond .eq 35, 3) := by decide +kernel
theorem dX4_makeLink_20 : decode cX4_makeLink 20 = .ok (.iload 4, 2) := by decide +kernel
theorem dX4_makeLink_22 : decode cX4_makeLink 22 = .ok (.iconst 0, 1) := by decide +kernel
theorem dX4_makeLink_23 : decode cX4_makeLink 23 = .ok (.bipush 99, 2) := by decide +kernel
theorem dX4_makeLink_25 : decode cX4_makeLink 25 = .ok (.invokestatic 49, 3) := by decide +kernel
theorem dX4_makeLink_28 : decode cX4_makeLink 28 = .ok (.ifCond .eq 24, 3) := by decide +kernel
theorem dX4_makeLink_31 : decode cX4_makeLink 31 = .ok (.iload 5, 2) := by decide +kernel
theorem dX4_makeLink_33 : decode cX4_makeLink 33 = .ok (.iconst 0, 1) := by decide +kernel
theorem dX4_makeLink_34 : decode cX4_makeLink 34 = .ok (.bipush 99, 2) := by decide +kernel
theorem dX4_makeLink_36 : decode cX4_makeLink 36 = .ok (.invokestatic 49, 3) := by decide +kernel
theorem dX4_makeLink_39 : decode cX4_makeLink 39 = .ok (.ifCond .eq 13, 3) := by decide +kernel
theorem dX4_makeLink_42 : decode cX4_makeLink 42 = .ok (.iload 4, 2) := by decide +kernel
theorem dX4_makeLink_44 : decode cX4_makeLink 44 = .ok (.ifCond .ne 15, 3) := by decide +kernel
theorem dX4_makeLink_47 : decode cX4_makeLink 47 = .ok (.iload 5, 2) := by decide +kernel
theorem dX4_makeLink_49 : decode cX4_makeLink 49 = .ok (.ifCond .le 10, 3) := by decide +kernel
theorem dX4_makeLink_52 : decode cX4_makeLink 52 = .ok (.aload_n 0, 1) := by decide +kernel
theorem dX4_makeLink_53 : decode cX4_makeLink 53 = .ok (.iconst 3, 1) := by decide +kernel
theorem dX4_makeLink_54 : decode cX4_makeLink 54 = .ok (.putfield 38, 3) := by decide +kernel
theorem dX4_makeLink_57 : decode cX4_makeLink 57 = .ok (.iconst 0, 1) := by decide +kernel
theorem dX4_makeLink_58 : decode cX4_makeLink 58 = .ok (.ireturn, 1) := by decide +kernel
theorem dX4_makeLink_59 : decode cX4_makeLink 59 = .ok (.aload_n 0, 1) := by decide +kernel
theorem dX4_makeLink_60 : decode cX4_makeLink 60 = .ok (.iload_n 1, 1) := by decide +kernel
theorem dX4_makeLink_61 : decode cX4_makeLink 61 = .ok (.iload_n 2, 1) := by decide +kernel
theorem dX4_makeLink_62 : decode cX4_makeLink 62 = .ok (.invokevirtual 152, 3) := by decide +kernel
theorem dX4_makeLink_65 : decode cX4_makeLink 65 = .ok (.istore 6, 2) := by decide +kernel
theorem dX4_makeLink_67 : decode cX4_makeLink 67 = .ok (.iload 6, 2) := by decide +kernel
theorem dX4_makeLink_69 : decode cX4_makeLink 69 = .ok (.ifCond .ge 6, 3) := by decide +kernel
theorem dX4_makeLink_72 : decode cX4_makeLink 72 = .ok (.iload 6, 2) := by decide +kernel
theorem dX4_makeLink_74 : decode cX4_makeLink 74 = .ok (.ireturn, 1) := by decide +kernel
theorem dX4_makeLink_75 : decode cX4_makeLink 75 = .ok (.aload_n 0, 1) := by decide +kernel
theorem dX4_makeLink_76 : decode cX4_makeLink 76 = .ok (.iload_n 1, 1) := by decide +kernel
theorem dX4_makeLink_77 : decode cX4_makeLink 77 = .ok (.iload_n 2, 1) := by decide +kernel
theorem dX4_makeLink_78 : decode cX4_makeLink 78 = .ok (.iconst 3, 1) := by decide +kernel
theorem dX4_makeLink_79 : decode cX4_makeLink 79 = .ok (.invokevirtual 155, 3) := by decide +kernel
theorem dX4_makeLink_82 : decode cX4_makeLink 82 = .ok (.istore 7, 2) := by decide +kernel
theorem dX4_makeLink_84 : decode cX4_makeLink 84 = .ok (.aload_n 0, 1) := by decide +kernel
theorem dX4_makeLink_85 : decode cX4_makeLink 85 = .ok (.getfield 16, 3) := by decide +kernel
theorem dX4_makeLink_88 : decode cX4_makeLink 88 = .ok (.bipush 96, 2) := by decide +kernel
theorem dX4_makeLink_90 : decode cX4_makeLink 90 = .ok (.iload 7, 2) := by decide +kernel
theorem dX4_makeLink_92 : decode cX4_makeLink 92 = .ok (.iadd, 1) := by decide +kernel
theorem dX4_makeLink_93 : decode cX4_makeLink 93 = .ok (.iload_n 3, 1) := by decide +kernel
theorem dX4_makeLink_94 : decode cX4_makeLink 94 = .ok (.iastore, 1) := by decide +kernel
theorem dX4_makeLink_95 : decode cX4_makeLink 95 = .ok (.aload_n 0, 1) := by decide +kernel
theorem dX4_makeLink_96 : decode cX4_makeLink 96 = .ok (.getfield 16, 3) := by decide +kernel
theorem dX4_makeLink_99 : decode cX4_makeLink 99 = .ok (.sipush 128, 3) := by decide +kernel
theorem dX4_makeLink_102 : decode cX4_makeLink 102 = .ok (.iload 7, 2) := by decide +kernel
theorem dX4_makeLink_104 : decode cX4_makeLink 104 = .ok (.iadd, 1) := by decide +kernel
theorem dX4_makeLink_105 : decode cX4_makeLink 105 = .ok (.iload 4, 2) := by decide +kernel
theorem dX4_makeLink_107 : decode cX4_makeLink 107 = .ok (.iastore, 1) := by decide +kernel
theorem dX4_makeLink_108 : decode cX4_makeLink 108 = .ok (.aload_n 0, 1) := by decide +kernel
theorem dX4_makeLink_109 : decode cX4_makeLink 109 = .ok (.getfield 16, 3) := by decide +kernel
theorem dX4_makeLink_112 : decode cX4_makeLink 112 = .ok (.sipush 160, 3) := by decide +kernel
theorem dX4_makeLink_115 : decode cX4_makeLink 115 = .ok (.iload 7, 2) := by decide +kernel
theorem dX4_makeLink_117 : decode cX4_makeLink 117 = .ok (.iadd, 1) := by decide +kernel
theorem dX4_makeLink_118 : decode cX4_makeLink 118 = .ok (.iload 5, 2) := by decide +kernel
theorem dX4_makeLink_120 : decode cX4_makeLink 120 = .ok (.iastore, 1) := by decide +kernel
theorem dX4_makeLink_121 : decode cX4_makeLink 121 = .ok (.aload_n 0, 1) := by decide +kernel
theorem dX4_makeLink_122 : decode cX4_makeLink 122 = .ok (.aload_n 0, 1) := by decide +kernel
theorem dX4_makeLink_123 : decode cX4_makeLink 123 = .ok (.invokevirtual 159, 3) := by decide +kernel
theorem dX4_makeLink_126 : decode cX4_makeLink 126 = .ok (.iload 7, 2) := by decide +kernel
theorem dX4_makeLink_128 : decode cX4_makeLink 128 = .ok (.invokevirtual 163, 3) := by decide +kernel
theorem dX4_makeLink_131 : decode cX4_makeLink 131 = .ok (.ireturn, 1) := by decide +kernel
theorem dX4_cloneFile_0 : decode cX4_cloneFile 0 = .ok (.aload_n 0, 1) := by decide +kernel
theorem dX4_cloneFile_1 : decode cX4_cloneFile 1 = .ok (.invokevirtual 129, 3) := by decide +kernel
theorem dX4_cloneFile_4 : decode cX4_cloneFile 4 = .ok (.ifCond .eq 5, 3) := by decide +kernel
theorem dX4_cloneFile_7 : decode cX4_cloneFile 7 = .ok (.iconst 0, 1) := by decide +kernel
theorem dX4_cloneFile_8 : decode cX4_cloneFile 8 = .ok (.ireturn, 1) := by decide +kernel
theorem dX4_cloneFile_9 : decode cX4_cloneFile 9 = .ok (.aload_n 0, 1) := by decide +kernel
theorem dX4_cloneFile_10 : decode cX4_cloneFile 10 = .ok (.iload_n 1, 1) := by decide +kernel
theorem dX4_cloneFile_11 : decode cX4_cloneFile 11 = .ok (.invokevirtual 132, 3) := by decide +kernel
theorem dX4_cloneFile_14 : decode cX4_cloneFile 14 = .ok (.ifCond .eq 11, 3) := by decide +kernel
theorem dX4_cloneFile_17 : decode cX4_cloneFile 17 = .ok (.aload_n 0, 1) := by decide +kernel
theorem dX4_cloneFile_18 : decode cX4_cloneFile 18 = .ok (.iload_n 3, 1) := by decide +kernel
theorem dX4_cloneFile_19 : decode cX4_cloneFile 19 = .ok (.invokevirtual 132, 3) := by decide +kernel
theorem dX4_cloneFile_22 : decode cX4_cloneFile 22 = .ok (.ifCond .ne 10, 3) := by decide +kernel
theorem dX4_cloneFile_25 : decode cX4_cloneFile 25 = .ok (.aload_n 0, 1) := by decide +kernel
theorem dX4_cloneFile_26 : decode cX4_cloneFile 26 = .ok (.iconst 2, 1) := by decide +kernel
theorem dX4_cloneFile_27 : decode cX4_cloneFile 27 = .ok (.putfield 38, 3) := by decide +kernel
theorem dX4_cloneFile_30 : decode cX4_cloneFile 30 = .ok (.iconst 0, 1) := by decide +kernel
theorem dX4_cloneFile_31 : decode cX4_cloneFile 31 = .ok (.ireturn, 1) := by decide +kernel
theorem dX4_cloneFile_32 : decode cX4_cloneFile 32 = .ok (.aload_n 0, 1) := by decide +kernel
theorem dX4_cloneFile_33 : decode cX4_cloneFile 33 = .ok (.iload_n 1, 1) := by decide +kernel
theorem dX4_cloneFile_34 : decode cX4_cloneFile 34 = .ok (.iload_n 2, 1) := by decide +kernel
theorem dX4_cloneFile_35 : decode cX4_cloneFile 35 = .ok (.invokevirtual 166, 3) := by decide +kernel
theorem dX4_cloneFile_38 : decode cX4_cloneFile 38 = .ok (.ifCond .eq 5, 3) := by decide +kernel
theorem dX4_cloneFile_41 : decode cX4_cloneFile 41 = .ok (.iconst 0, 1) := by decide +kernel
theorem dX4_cloneFile_42 : decode cX4_cloneFile 42 = .ok (.ireturn, 1) := by decide +kernel
theorem dX4_cloneFile_43 : decode cX4_cloneFile 43 = .ok (.aload_n 0, 1) := by decide +kernel
theorem dX4_cloneFile_44 : decode cX4_cloneFile 44 = .ok (.getfield 9, 3) := by decide +kernel
theorem dX4_cloneFile_47 : decode cX4_cloneFile 47 = .ok (.iload_n 1, 1) := by decide +kernel
theorem dX4_cloneFile_48 : decode cX4_cloneFile 48 = .ok (.iconst 2, 1) := by decide +kernel
theorem dX4_cloneFile_49 : decode cX4_cloneFile 49 = .ok (.invokestatic 61, 3) := by decide +kernel
theorem dX4_cloneFile_52 : decode cX4_cloneFile 52 = .ok (.ifCond .eq 15, 3) := by decide +kernel
theorem dX4_cloneFile_55 : decode cX4_cloneFile 55 = .ok (.aload_n 0, 1) := by decide +kernel
theorem dX4_cloneFile_56 : decode cX4_cloneFile 56 = .ok (.getfield 9, 3) := by decide +kernel
theorem dX4_cloneFile_59 : decode cX4_cloneFile 59 = .ok (.iload_n 3, 1) := by decide +kernel
theorem dX4_cloneFile_60 : decode cX4_cloneFile 60 = .ok (.iconst 1, 1) := by decide +kernel
theorem dX4_cloneFile_61 : decode cX4_cloneFile 61 = .ok (.invokestatic 61, 3) := by decide +kernel
theorem dX4_cloneFile_64 : decode cX4_cloneFile 64 = .ok (.ifCond .ne 6, 3) := by decide +kernel
theorem dX4_cloneFile_67 : decode cX4_cloneFile 67 = .ok (.bipush (-3), 2) := by decide +kernel
theorem dX4_cloneFile_69 : decode cX4_cloneFile 69 = .ok (.ireturn, 1) := by decide +kernel
theorem dX4_cloneFile_70 : decode cX4_cloneFile 70 = .ok (.aload_n 0, 1) := by decide +kernel
theorem dX4_cloneFile_71 : decode cX4_cloneFile 71 = .ok (.iload_n 1, 1) := by decide +kernel
theorem dX4_cloneFile_72 : decode cX4_cloneFile 72 = .ok (.iload_n 2, 1) := by decide +kernel
theorem dX4_cloneFile_73 : decode cX4_cloneFile 73 = .ok (.invokevirtual 152, 3) := by decide +kernel
theorem dX4_cloneFile_76 : decode cX4_cloneFile 76 = .ok (.istore 4, 2) := by decide +kernel
theorem dX4_cloneFile_78 : decode cX4_cloneFile 78 = .ok (.iload 4, 2) := by decide +kernel
theorem dX4_cloneFile_80 : decode cX4_cloneFile 80 = .ok (.ifCond .ge 6, 3) := by decide +kernel
theorem dX4_cloneFile_83 : decode cX4_cloneFile 83 = .ok (.iload 4, 2) := by decide +kernel
theorem dX4_cloneFile_85 : decode cX4_cloneFile 85 = .ok (.ireturn, 1) := by decide +kernel
theorem dX4_cloneFile_86 : decode cX4_cloneFile 86 = .ok (.aload_n 0, 1) := by decide +kernel
theorem dX4_cloneFile_87 : decode cX4_cloneFile 87 = .ok (.iload_n 1, 1) := by decide +kernel
theorem dX4_cloneFile_88 : decode cX4_cloneFile 88 = .ok (.iload_n 2, 1) := by decide +kernel
theorem dX4_cloneFile_89 : decode cX4_cloneFile 89 = .ok (.iconst 1, 1) := by decide +kernel
theorem dX4_cloneFile_90 : decode cX4_cloneFile 90 = .ok (.invokevirtual 155, 3) := by decide +kernel
theorem dX4_cloneFile_93 : decode cX4_cloneFile 93 = .ok (.istore 5, 2) := by decide +kernel
theorem dX4_cloneFile_95 : decode cX4_cloneFile 95 = .ok (.aload_n 0, 1) := by decide +kernel
theorem dX4_cloneFile_96 : decode cX4_cloneFile 96 = .ok (.getfield 16, 3) := by decide +kernel
theorem dX4_cloneFile_99 : decode cX4_cloneFile 99 = .ok (.bipush 64, 2) := by decide +kernel
theorem dX4_cloneFile_101 : decode cX4_cloneFile 101 = .ok (.iload 5, 2) := by decide +kernel
theorem dX4_cloneFile_103 : decode cX4_cloneFile 103 = .ok (.iadd, 1) := by decide +kernel
theorem dX4_cloneFile_104 : decode cX4_cloneFile 104 = .ok (.aload_n 0, 1) := by decide +kernel
theorem dX4_cloneFile_105 : decode cX4_cloneFile 105 = .ok (.getfield 16, 3) := by decide +kernel
theorem dX4_cloneFile_108 : decode cX4_cloneFile 108 = .ok (.bipush 64, 2) := by decide +kernel
theorem dX4_cloneFile_110 : decode cX4_cloneFile 110 = .ok (.iload_n 3, 1) := by decide +kernel
theorem dX4_cloneFile_111 : decode cX4_cloneFile 111 = .ok (.iadd, 1) := by decide +kernel
theorem dX4_cloneFile_112 : decode cX4_cloneFile 112 = .ok (.iaload, 1) := by decide +kernel
theorem dX4_cloneFile_113 : decode cX4_cloneFile 113 = .ok (.iastore, 1) := by decide +kernel
theorem dX4_cloneFile_114 : decode cX4_cloneFile 114 = .ok (.aload_n 0, 1) := by decide +kernel
theorem dX4_cloneFile_115 : decode cX4_cloneFile 115 = .ok (.getfield 16, 3) := by decide +kernel
theorem dX4_cloneFile_118 : decode cX4_cloneFile 118 = .ok (.sipush 192, 3) := by decide +kernel
theorem dX4_cloneFile_121 : decode cX4_cloneFile 121 = .ok (.iload_n 3, 1) := by decide +kernel
theorem dX4_cloneFile_122 : decode cX4_cloneFile 122 = .ok (.bipush 20, 2) := by decide +kernel
theorem dX4_cloneFile_124 : decode cX4_cloneFile 124 = .ok (.imul, 1) := by decide +kernel
theorem dX4_cloneFile_125 : decode cX4_cloneFile 125 = .ok (.iadd, 1) := by decide +kernel
theorem dX4_cloneFile_126 : decode cX4_cloneFile 126 = .ok (.aload_n 0, 1) := by decide +kernel
theorem dX4_cloneFile_127 : decode cX4_cloneFile 127 = .ok (.getfield 16, 3) := by decide +kernel
theorem dX4_cloneFile_130 : decode cX4_cloneFile 130 = .ok (.sipush 192, 3) := by decide +kernel
theorem dX4_cloneFile_133 : decode cX4_cloneFile 133 = .ok (.iload 5, 2) := by decide +kernel
theorem dX4_cloneFile_135 : decode cX4_cloneFile 135 = .ok (.bipush 20, 2) := by decide +kernel
theorem dX4_cloneFile_137 : decode cX4_cloneFile 137 = .ok (.imul, 1) := by decide +kernel
theorem dX4_cloneFile_138 : decode cX4_cloneFile 138 = .ok (.iadd, 1) := by decide +kernel
theorem dX4_cloneFile_139 : decode cX4_cloneFile 139 = .ok (.bipush 20, 2) := by decide +kernel
theorem dX4_cloneFile_141 : decode cX4_cloneFile 141 = .ok (.invokestatic 32, 3) := by decide +kernel
theorem dX4_cloneFile_144 : decode cX4_cloneFile 144 = .ok (.aload_n 0, 1) := by decide +kernel
theorem dX4_cloneFile_145 : decode cX4_cloneFile 145 = .ok (.aload_n 0, 1) := by decide +kernel
theorem dX4_cloneFile_146 : decode cX4_cloneFile 146 = .ok (.invokevirtual 159, 3) := by decide +kernel
theorem dX4_cloneFile_149 : decode cX4_cloneFile 149 = .ok (.iload 5, 2) := by decide +kernel
theorem dX4_cloneFile_151 : decode cX4_cloneFile 151 = .ok (.invokevirtual 163, 3) := by decide +kernel
theorem dX4_cloneFile_154 : decode cX4_cloneFile 154 = .ok (.ireturn, 1) := by decide +kernel
theorem dX4_addName_0 : decode cX4_addName 0 = .ok (.aload_n 0, 1) := by decide +kernel
theorem dX4_addName_1 : decode cX4_addName 1 = .ok (.invokevirtual 129, 3) := by decide +kernel
theorem dX4_addName_4 : decode cX4_addName 4 = .ok (.ifCond .eq 5, 3) := by decide +kernel
theorem dX4_addName_7 : decode cX4_addName 7 = .ok (.iconst 0, 1) := by decide +kernel
theorem dX4_addName_8 : decode cX4_addName 8 = .ok (.ireturn, 1) := by decide +kernel
theorem dX4_addName_9 : decode cX4_addName 9 = .ok (.aload_n 0, 1) := by decide +kernel
theorem dX4_addName_10 : decode cX4_addName 10 = .ok (.iload_n 1, 1) := by decide +kernel
theorem dX4_addName_11 : decode cX4_addName 11 = .ok (.invokevirtual 132, 3) := by decide +kernel
theorem dX4_addName_14 : decode cX4_addName 14 = .ok (.ifCond .eq 11, 3) := by decide +kernel
theorem dX4_addName_17 : decode cX4_addName 17 = .ok (.aload_n 0, 1) := by decide +kernel
theorem dX4_addName_18 : decode cX4_addName 18 = .ok (.iload_n 3, 1) := by decide +kernel
theorem dX4_addName_19 : decode cX4_addName 19 = .ok (.invokevirtual 132, 3) := by decide +kernel
theorem dX4_addName_22 : decode cX4_addName 22 = .ok (.ifCond .ne 10, 3) := by decide +kernel
theorem dX4_addName_25 : decode cX4_addName 25 = .ok (.aload_n 0, 1) := by decide +kernel
theorem dX4_addName_26 : decode cX4_addName 26 = .ok (.iconst 2, 1) := by decide +kernel
theorem dX4_addName_27 : decode cX4_addName 27 = .ok (.putfield 38, 3) := by decide +kernel
theorem dX4_addName_30 : decode cX4_addName 30 = .ok (.iconst 0, 1) := by decide +kernel
theorem dX4_addName_31 : decode cX4_addName 31 = .ok (.ireturn, 1) := by decide +kernel
theorem dX4_addName_32 : decode cX4_addName 32 = .ok (.aload_n 0, 1) := by decide +kernel
theorem dX4_addName_33 : decode cX4_addName 33 = .ok (.iload_n 1, 1) := by decide +kernel
theorem dX4_addName_34 : decode cX4_addName 34 = .ok (.iload_n 2, 1) := by decide +kernel
theorem dX4_addName_35 : decode cX4_addName 35 = .ok (.invokevirtual 166, 3) := by decide +kernel
theorem dX4_addName_38 : decode cX4_addName 38 = .ok (.ifCond .eq 5, 3) := by decide +kernel
theorem dX4_addName_41 : decode cX4_addName 41 = .ok (.iconst 0, 1) := by decide +kernel
theorem dX4_addName_42 : decode cX4_addName 42 = .ok (.ireturn, 1) := by decide +kernel
theorem dX4_addName_43 : decode cX4_addName 43 = .ok (.aload_n 0, 1) := by decide +kernel
theorem dX4_addName_44 : decode cX4_addName 44 = .ok (.getfield 9, 3) := by decide +kernel
theorem dX4_addName_47 : decode cX4_addName 47 = .ok (.iload_n 1, 1) := by decide +kernel
theorem dX4_addName_48 : decode cX4_addName 48 = .ok (.iconst 2, 1) := by decide +kernel
theorem dX4_addName_49 : decode cX4_addName 49 = .ok (.invokestatic 61, 3) := by decide +kernel
theorem dX4_addName_52 : decode cX4_addName 52 = .ok (.ifCond .eq 15, 3) := by decide +kernel
theorem dX4_addName_55 : decode cX4_addName 55 = .ok (.aload_n 0, 1) := by decide +kernel
theorem dX4_addName_56 : decode cX4_addName 56 = .ok (.getfield 9, 3) := by decide +kernel
theorem dX4_addName_59 : decode cX4_addName 59 = .ok (.iload_n 3, 1) := by decide +kernel
theorem dX4_addName_60 : decode cX4_addName 60 = .ok (.iconst 2, 1) := by decide +kernel
theorem dX4_addName_61 : decode cX4_addName 61 = .ok (.invokestatic 61, 3) := by decide +kernel
theorem dX4_addName_64 : decode cX4_addName 64 = .ok (.ifCond .eq 6, 3) := by decide +kernel
theorem dX4_addName_67 : decode cX4_addName 67 = .ok (.bipush (-3), 2) := by decide +kernel
theorem dX4_addName_69 : decode cX4_addName 69 = .ok (.ireturn, 1) := by decide +kernel
theorem dX4_addName_70 : decode cX4_addName 70 = .ok (.aload_n 0, 1) := by decide +kernel
theorem dX4_addName_71 : decode cX4_addName 71 = .ok (.getfield 9, 3) := by decide +kernel
theorem dX4_addName_74 : decode cX4_addName 74 = .ok (.iload_n 3, 1) := by decide +kernel
theorem dX4_addName_75 : decode cX4_addName 75 = .ok (.invokestatic 89, 3) := by decide +kernel
theorem dX4_addName_78 : decode cX4_addName 78 = .ok (.istore 4, 2) := by decide +kernel
theorem dX4_addName_80 : decode cX4_addName 80 = .ok (.iload 4, 2) := by decide +kernel
theorem dX4_addName_82 : decode cX4_addName 82 = .ok (.ifCond .ne 5, 3) := by decide +kernel
theorem dX4_addName_85 : decode cX4_addName 85 = .ok (.iconst (-1), 1) := by decide +kernel
theorem dX4_addName_86 : decode cX4_addName 86 = .ok (.ireturn, 1) := by decide +kernel
theorem dX4_addName_87 : decode cX4_addName 87 = .ok (.aload_n 0, 1) := by decide +kernel
theorem dX4_addName_88 : decode cX4_addName 88 = .ok (.iload_n 1, 1) := by decide +kernel
theorem dX4_addName_89 : decode cX4_addName 89 = .ok (.iload_n 2, 1) := by decide +kernel
theorem dX4_addName_90 : decode cX4_addName 90 = .ok (.invokevirtual 148, 3) := by decide +kernel
theorem dX4_addName_93 : decode cX4_addName 93 = .ok (.istore 5, 2) := by decide +kernel
theorem dX4_addName_95 : decode cX4_addName 95 = .ok (.iload 5, 2) := by decide +kernel
theorem dX4_addName_97 : decode cX4_addName 97 = .ok (.bipush (-2), 2) := by decide +kernel
theorem dX4_addName_99 : decode cX4_addName 99 = .ok (.if_icmp .ne 6, 3) := by decide +kernel
theorem dX4_addName_102 : decode cX4_addName 102 = .ok (.bipush (-2), 2) := by decide +kernel
theorem dX4_addName_104 : decode cX4_addName 104 = .ok (.ireturn, 1) := by decide +kernel
theorem dX4_addName_105 : decode cX4_addName 105 = .ok (.iload 5, 2) := by decide +kernel
theorem dX4_addName_107 : decode cX4_addName 107 = .ok (.bipush (-5), 2) := by decide +kernel
theorem dX4_addName_109 : decode cX4_addName 109 = .ok (.if_icmp .eq 10, 3) := by decide +kernel
theorem dX4_addName_112 : decode cX4_addName 112 = .ok (.iload 4, 2) := by decide +kernel
theorem dX4_addName_114 : decode cX4_addName 114 = .ok (.bipush 6, 2) := by decide +kernel
theorem dX4_addName_116 : decode cX4_addName 116 = .ok (.if_icmp .ne 6, 3) := by decide +kernel
theorem dX4_addName_119 : decode cX4_addName 119 = .ok (.bipush (-5), 2) := by decide +kernel
theorem dX4_addName_121 : decode cX4_addName 121 = .ok (.ireturn, 1) := by decide +kernel
theorem dX4_addName_122 : decode cX4_addName 122 = .ok (.aload_n 0, 1) := by decide +kernel
theorem dX4_addName_123 : decode cX4_addName 123 = .ok (.invokevirtual 138, 3) := by decide +kernel
theorem dX4_addName_126 : decode cX4_addName 126 = .ok (.aload_n 0, 1) := by decide +kernel
theorem dX4_addName_127 : decode cX4_addName 127 = .ok (.getfield 16, 3) := by decide +kernel
theorem dX4_addName_130 : decode cX4_addName 130 = .ok (.iload_n 1, 1) := by decide +kernel
theorem dX4_addName_131 : decode cX4_addName 131 = .ok (.iload_n 2, 1) := by decide +kernel
theorem dX4_addName_132 : decode cX4_addName 132 = .ok (.iload_n 3, 1) := by decide +kernel
theorem dX4_addName_133 : decode cX4_addName 133 = .ok (.invokestatic 144, 3) := by decide +kernel
theorem dX4_addName_136 : decode cX4_addName 136 = .ok (.aload_n 0, 1) := by decide +kernel
theorem dX4_addName_137 : decode cX4_addName 137 = .ok (.aload_n 0, 1) := by decide +kernel
theorem dX4_addName_138 : decode cX4_addName 138 = .ok (.invokevirtual 159, 3) := by decide +kernel
theorem dX4_addName_141 : decode cX4_addName 141 = .ok (.iload 4, 2) := by decide +kernel
theorem dX4_addName_143 : decode cX4_addName 143 = .ok (.iconst 1, 1) := by decide +kernel
theorem dX4_addName_144 : decode cX4_addName 144 = .ok (.iadd, 1) := by decide +kernel
theorem dX4_addName_145 : decode cX4_addName 145 = .ok (.invokevirtual 163, 3) := by decide +kernel
theorem dX4_addName_148 : decode cX4_addName 148 = .ok (.ireturn, 1) := by decide +kernel
theorem dX4_unlink_0 : decode cX4_unlink 0 = .ok (.aload_n 0, 1) := by decide +kernel
theorem dX4_unlink_1 : decode cX4_unlink 1 = .ok (.iload_n 1, 1) := by decide +kernel
theorem dX4_unlink_2 : decode cX4_unlink 2 = .ok (.iload_n 2, 1) := by decide +kernel
theorem dX4_unlink_3 : decode cX4_unlink 3 = .ok (.invokevirtual 166, 3) := by decide +kernel
theorem dX4_unlink_6 : decode cX4_unlink 6 = .ok (.ifCond .eq 5, 3) := by decide +kernel
theorem dX4_unlink_9 : decode cX4_unlink 9 = .ok (.iconst 0, 1) := by decide +kernel
theorem dX4_unlink_10 : decode cX4_unlink 10 = .ok (.ireturn, 1) := by decide +kernel
theorem dX4_unlink_11 : decode cX4_unlink 11 = .ok (.aload_n 0, 1) := by decide +kernel
theorem dX4_unlink_12 : decode cX4_unlink 12 = .ok (.getfield 9, 3) := by decide +kernel
theorem dX4_unlink_15 : decode cX4_unlink 15 = .ok (.iload_n 1, 1) := by decide +kernel
theorem dX4_unlink_16 : decode cX4_unlink 16 = .ok (.iconst 2, 1) := by decide +kernel
theorem dX4_unlink_17 : decode cX4_unlink 17 = .ok (.invokestatic 61, 3) := by decide +kernel
theorem dX4_unlink_20 : decode cX4_unlink 20 = .ok (.ifCond .ne 6, 3) := by decide +kernel
theorem dX4_unlink_23 : decode cX4_unlink 23 = .ok (.bipush (-3), 2) := by decide +kernel
theorem dX4_unlink_25 : decode cX4_unlink 25 = .ok (.ireturn, 1) := by decide +kernel
theorem dX4_unlink_26 : decode cX4_unlink 26 = .ok (.aload_n 0, 1) := by decide +kernel
theorem dX4_unlink_27 : decode cX4_unlink 27 = .ok (.getfield 9, 3) := by decide +kernel
theorem dX4_unlink_30 : decode cX4_unlink 30 = .ok (.iload_n 1, 1) := by decide +kernel
theorem dX4_unlink_31 : decode cX4_unlink 31 = .ok (.iload_n 2, 1) := by decide +kernel
theorem dX4_unlink_32 : decode cX4_unlink 32 = .ok (.invokestatic 173, 3) := by decide +kernel
theorem dX4_unlink_35 : decode cX4_unlink 35 = .ok (.istore_n 3, 1) := by decide +kernel
theorem dX4_unlink_36 : decode cX4_unlink 36 = .ok (.iload_n 3, 1) := by decide +kernel
theorem dX4_unlink_37 : decode cX4_unlink 37 = .ok (.ifCond .ge 5, 3) := by decide +kernel
theorem dX4_unlink_40 : decode cX4_unlink 40 = .ok (.iconst (-1), 1) := by decide +kernel
theorem dX4_unlink_41 : decode cX4_unlink 41 = .ok (.ireturn, 1) := by decide +kernel
theorem dX4_unlink_42 : decode cX4_unlink 42 = .ok (.aload_n 0, 1) := by decide +kernel
theorem dX4_unlink_43 : decode cX4_unlink 43 = .ok (.getfield 9, 3) := by decide +kernel
theorem dX4_unlink_46 : decode cX4_unlink 46 = .ok (.iload_n 3, 1) := by decide +kernel
theorem dX4_unlink_47 : decode cX4_unlink 47 = .ok (.iconst 2, 1) := by decide +kernel
theorem dX4_unlink_48 : decode cX4_unlink 48 = .ok (.invokestatic 61, 3) := by decide +kernel
theorem dX4_unlink_51 : decode cX4_unlink 51 = .ok (.ifCond .eq 6, 3) := by decide +kernel
theorem dX4_unlink_54 : decode cX4_unlink 54 = .ok (.bipush (-3), 2) := by decide +kernel
theorem dX4_unlink_56 : decode cX4_unlink 56 = .ok (.ireturn, 1) := by decide +kernel
theorem dX4_unlink_57 : decode cX4_unlink 57 = .ok (.aload_n 0, 1) := by decide +kernel
theorem dX4_unlink_58 : decode cX4_unlink 58 = .ok (.invokevirtual 138, 3) := by decide +kernel
theorem dX4_unlink_61 : decode cX4_unlink 61 = .ok (.aload_n 0, 1) := by decide +kernel
theorem dX4_unlink_62 : decode cX4_unlink 62 = .ok (.getfield 16, 3) := by decide +kernel
theorem dX4_unlink_65 : decode cX4_unlink 65 = .ok (.iload_n 1, 1) := by decide +kernel
theorem dX4_unlink_66 : decode cX4_unlink 66 = .ok (.iload_n 2, 1) := by decide +kernel
theorem dX4_unlink_67 : decode cX4_unlink 67 = .ok (.invokestatic 176, 3) := by decide +kernel
theorem dX4_unlink_70 : decode cX4_unlink 70 = .ok (.aload_n 0, 1) := by decide +kernel
theorem dX4_unlink_71 : decode cX4_unlink 71 = .ok (.getfield 16, 3) := by decide +kernel
theorem dX4_unlink_74 : decode cX4_unlink 74 = .ok (.iload_n 3, 1) := by decide +kernel
theorem dX4_unlink_75 : decode cX4_unlink 75 = .ok (.invokestatic 89, 3) := by decide +kernel
theorem dX4_unlink_78 : decode cX4_unlink 78 = .ok (.istore 4, 2) := by decide +kernel
theorem dX4_unlink_80 : decode cX4_unlink 80 = .ok (.aload_n 0, 1) := by decide +kernel
theorem dX4_unlink_81 : decode cX4_unlink 81 = .ok (.iload_n 3, 1) := by decide +kernel
theorem dX4_unlink_82 : decode cX4_unlink 82 = .ok (.invokevirtual 180, 3) := by decide +kernel
theorem dX4_unlink_85 : decode cX4_unlink 85 = .ok (.aload_n 0, 1) := by decide +kernel
theorem dX4_unlink_86 : decode cX4_unlink 86 = .ok (.iload 4, 2) := by decide +kernel
theorem dX4_unlink_88 : decode cX4_unlink 88 = .ok (.invokevirtual 113, 3) := by decide +kernel
theorem dX4_unlink_91 : decode cX4_unlink 91 = .ok (.ireturn, 1) := by decide +kernel
theorem dX4_removeFolder_0 : decode cX4_removeFolder 0 = .ok (.aload_n 0, 1) := by decide +kernel
theorem dX4_removeFolder_1 : decode cX4_removeFolder 1 = .ok (.iload_n 1, 1) := by decide +kernel
theorem dX4_removeFolder_2 : decode cX4_removeFolder 2 = .ok (.iload_n 2, 1) := by decide +kernel
theorem dX4_removeFolder_3 : decode cX4_removeFolder 3 = .ok (.invokevirtual 166, 3) := by decide +kernel
theorem dX4_removeFolder_6 : decode cX4_removeFolder 6 = .ok (.ifCond .eq 5, 3) := by decide +kernel
theorem dX4_removeFolder_9 : decode cX4_removeFolder 9 = .ok (.iconst 0, 1) := by decide +kernel
theorem dX4_removeFolder_10 : decode cX4_removeFolder 10 = .ok (.ireturn, 1) := by decide +kernel
theorem dX4_removeFolder_11 : decode cX4_removeFolder 11 = .ok (.aload_n 0, 1) := by decide +kernel
theorem dX4_removeFolder_12 : decode cX4_removeFolder 12 = .ok (.getfield 9, 3) := by decide +kernel
theorem dX4_removeFolder_15 : decode cX4_removeFolder 15 = .ok (.iload_n 1, 1) := by decide +kernel
theorem dX4_removeFolder_16 : decode cX4_removeFolder 16 = .ok (.iconst 2, 1) := by decide +kernel
theorem dX4_removeFolder_17 : decode cX4_removeFolder 17 = .ok (.invokestatic 61, 3) := by decide +kernel
theorem dX4_removeFolder_20 : decode cX4_removeFolder 20 = .ok (.ifCond .ne 6, 3) := by decide +kernel
theorem dX4_removeFolder_23 : decode cX4_removeFolder 23 = .ok (.bipush (-3), 2) := by decide +kernel
theorem dX4_removeFolder_25 : decode cX4_removeFolder 25 = .ok (.ireturn, 1) := by decide +kernel
theorem dX4_removeFolder_26 : decode cX4_removeFolder 26 = .ok (.aload_n 0, 1) := by decide +kernel
theorem dX4_removeFolder_27 : decode cX4_removeFolder 27 = .ok (.getfield 9, 3) := by decide +kernel
theorem dX4_removeFolder_30 : decode cX4_removeFolder 30 = .ok (.iload_n 1, 1) := by decide +kernel
theorem dX4_removeFolder_31 : decode cX4_removeFolder 31 = .ok (.iload_n 2, 1) := by decide +kernel
theorem dX4_removeFolder_32 : decode cX4_removeFolder 32 = .ok (.invokestatic 173, 3) := by decide +kernel
theorem dX4_removeFolder_35 : decode cX4_removeFolder 35 = .ok (.istore_n 3, 1) := by decide +kernel
theorem dX4_removeFolder_36 : decode cX4_removeFolder 36 = .ok (.iload_n 3, 1) := by decide +kernel
theorem dX4_removeFolder_37 : decode cX4_removeFolder 37 = .ok (.ifCond .ge 5, 3) := by decide +kernel
theorem dX4_removeFolder_40 : decode cX4_removeFolder 40 = .ok (.iconst (-1), 1) := by decide +kernel
theorem dX4_removeFolder_41 : decode cX4_removeFolder 41 = .ok (.ireturn, 1) := by decide +kernel
theorem dX4_removeFolder_42 : decode cX4_removeFolder 42 = .ok (.aload_n 0, 1) := by decide +kernel
theorem dX4_removeFolder_43 : decode cX4_removeFolder 43 = .ok (.getfield 9, 3) := by decide +kernel
theorem dX4_removeFolder_46 : decode cX4_removeFolder 46 = .ok (.iload_n 3, 1) := by decide +kernel
theorem dX4_removeFolder_47 : decode cX4_removeFolder 47 = .ok (.iconst 2, 1) := by decide +kernel
theorem dX4_removeFolder_48 : decode cX4_removeFolder 48 = .ok (.invokestatic 61, 3) := by decide +kernel
theorem dX4_removeFolder_51 : decode cX4_removeFolder 51 = .ok (.ifCond .ne 6, 3) := by decide +kernel
theorem dX4_removeFolder_54 : decode cX4_removeFolder 54 = .ok (.bipush (-3), 2) := by decide +kernel
theorem dX4_removeFolder_56 : decode cX4_removeFolder 56 = .ok (.ireturn, 1) := by decide +kernel
theorem dX4_removeFolder_57 : decode cX4_removeFolder 57 = .ok (.aload_n 0, 1) := by decide +kernel
theorem dX4_removeFolder_58 : decode cX4_removeFolder 58 = .ok (.getfield 9, 3) := by decide +kernel
theorem dX4_removeFolder_61 : decode cX4_removeFolder 61 = .ok (.iload_n 3, 1) := by decide +kernel
theorem dX4_removeFolder_62 : decode cX4_removeFolder 62 = .ok (.invokestatic 53, 3) := by decide +kernel
theorem dX4_removeFolder_65 : decode cX4_removeFolder 65 = .ok (.ifCond .le 6, 3) := by decide +kernel
theorem dX4_removeFolder_68 : decode cX4_removeFolder 68 = .ok (.bipush (-4), 2) := by decide +kernel
theorem dX4_removeFolder_70 : decode cX4_removeFolder 70 = .ok (.ireturn, 1) := by decide +kernel
theorem dX4_removeFolder_71 : decode cX4_removeFolder 71 = .ok (.aload_n 0, 1) := by decide +kernel
theorem dX4_removeFolder_72 : decode cX4_removeFolder 72 = .ok (.invokevirtual 138, 3) := by decide +kernel
theorem dX4_removeFolder_75 : decode cX4_removeFolder 75 = .ok (.aload_n 0, 1) := by decide +kernel
theorem dX4_removeFolder_76 : decode cX4_removeFolder 76 = .ok (.getfield 16, 3) := by decide +kernel
theorem dX4_removeFolder_79 : decode cX4_removeFolder 79 = .ok (.iload_n 1, 1) := by decide +kernel
theorem dX4_removeFolder_80 : decode cX4_removeFolder 80 = .ok (.iload_n 2, 1) := by decide +kernel
theorem dX4_removeFolder_81 : decode cX4_removeFolder 81 = .ok (.invokestatic 176, 3) := by decide +kernel
theorem dX4_removeFolder_84 : decode cX4_removeFolder 84 = .ok (.aload_n 0, 1) := by decide +kernel
theorem dX4_removeFolder_85 : decode cX4_removeFolder 85 = .ok (.getfield 16, 3) := by decide +kernel
theorem dX4_removeFolder_88 : decode cX4_removeFolder 88 = .ok (.iload_n 3, 1) := by decide +kernel
theorem dX4_removeFolder_89 : decode cX4_removeFolder 89 = .ok (.invokestatic 95, 3) := by decide +kernel
theorem dX4_removeFolder_92 : decode cX4_removeFolder 92 = .ok (.aload_n 0, 1) := by decide +kernel
theorem dX4_removeFolder_93 : decode cX4_removeFolder 93 = .ok (.iload_n 3, 1) := by decide +kernel
theorem dX4_removeFolder_94 : decode cX4_removeFolder 94 = .ok (.invokevirtual 113, 3) := by decide +kernel
theorem dX4_removeFolder_97 : decode cX4_removeFolder 97 = .ok (.ireturn, 1) := by decide +kernel
theorem dX4_isRefusedBoth_0 : decode cX4_isRefusedBoth 0 = .ok (.aload_n 0, 1) := by decide +kernel
theorem dX4_isRefusedBoth_1 : decode cX4_isRefusedBoth 1 = .ok (.invokevirtual 129, 3) := by decide +kernel
theorem dX4_isRefusedBoth_4 : decode cX4_isRefusedBoth 4 = .ok (.ifCond .eq 5, 3) := by decide +kernel
theorem dX4_isRefusedBoth_7 : decode cX4_isRefusedBoth 7 = .ok (.iconst 1, 1) := by decide +kernel
theorem dX4_isRefusedBoth_8 : decode cX4_isRefusedBoth 8 = .ok (.ireturn, 1) := by decide +kernel
theorem dX4_isRefusedBoth_9 : decode cX4_isRefusedBoth 9 = .ok (.aload_n 0, 1) := by decide +kernel
theorem dX4_isRefusedBoth_10 : decode cX4_isRefusedBoth 10 = .ok (.iload_n 1, 1) := by decide +kernel
theorem dX4_isRefusedBoth_11 : decode cX4_isRefusedBoth 11 = .ok (.invokevirtual 132, 3) := by decide +kernel
theorem dX4_isRefusedBoth_14 : decode cX4_isRefusedBoth 14 = .ok (.ifCond .eq 11, 3) := by decide +kernel
theorem dX4_isRefusedBoth_17 : decode cX4_isRefusedBoth 17 = .ok (.aload_n 0, 1) := by decide +kernel
theorem dX4_isRefusedBoth_18 : decode cX4_isRefusedBoth 18 = .ok (.iload_n 3, 1) := by decide +kernel
theorem dX4_isRefusedBoth_19 : decode cX4_isRefusedBoth 19 = .ok (.invokevirtual 132, 3) := by decide +kernel
theorem dX4_isRefusedBoth_22 : decode cX4_isRefusedBoth 22 = .ok (.ifCond .ne 9, 3) := by decide +kernel
theorem dX4_isRefusedBoth_25 : decode cX4_isRefusedBoth 25 = .ok (.aload_n 0, 1) := by decide +kernel
theorem dX4_isRefusedBoth_26 : decode cX4_isRefusedBoth 26 = .ok (.iconst 2, 1) := by decide +kernel
theorem dX4_isRefusedBoth_27 : decode cX4_isRefusedBoth 27 = .ok (.invokevirtual 45, 3) := by decide +kernel
theorem dX4_isRefusedBoth_30 : decode cX4_isRefusedBoth 30 = .ok (.ireturn, 1) := by decide +kernel
theorem dX4_isRefusedBoth_31 : decode cX4_isRefusedBoth 31 = .ok (.iload_n 2, 1) := by decide +kernel
theorem dX4_isRefusedBoth_32 : decode cX4_isRefusedBoth 32 = .ok (.invokestatic 135, 3) := by decide +kernel
theorem dX4_isRefusedBoth_35 : decode cX4_isRefusedBoth 35 = .ok (.ifCond .eq 11, 3) := by decide +kernel
theorem dX4_isRefusedBoth_38 : decode cX4_isRefusedBoth 38 = .ok (.iload 4, 2) := by decide +kernel
theorem dX4_isRefusedBoth_40 : decode cX4_isRefusedBoth 40 = .ok (.invokestatic 135, 3) := by decide +kernel
theorem dX4_isRefusedBoth_43 : decode cX4_isRefusedBoth 43 = .ok (.ifCond .ne 15, 3) := by decide +kernel
theorem dX4_isRefusedBoth_46 : decode cX4_isRefusedBoth 46 = .ok (.aload_n 0, 1) := by decide +kernel
theorem dX4_isRefusedBoth_47 : decode cX4_isRefusedBoth 47 = .ok (.iconst 3, 1) := by decide +kernel
theorem dX4_isRefusedBoth_48 : decode cX4_isRefusedBoth 48 = .ok (.invokevirtual 45, 3) := by decide +kernel
theorem dX4_isRefusedBoth_51 : decode cX4_isRefusedBoth 51 = .ok (.ifCond .eq 7, 3) := by decide +kernel
theorem dX4_isRefusedBoth_54 : decode cX4_isRefusedBoth 54 = .ok (.iconst 1, 1) := by decide +kernel
theorem dX4_isRefusedBoth_55 : decode cX4_isRefusedBoth 55 = .ok (.goto 4, 3) := by decide +kernel
theorem dX4_isRefusedBoth_58 : decode cX4_isRefusedBoth 58 = .ok (.iconst 0, 1) := by decide +kernel
theorem dX4_isRefusedBoth_59 : decode cX4_isRefusedBoth 59 = .ok (.ireturn, 1) := by decide +kernel
theorem dX4_renameHinders_0 : decode cX4_renameHinders 0 = .ok (.aload_n 0, 1) := by decide +kernel
theorem dX4_renameHinders_1 : decode cX4_renameHinders 1 = .ok (.getfield 9, 3) := by decide +kernel
theorem dX4_renameHinders_4 : decode cX4_renameHinders 4 = .ok (.iload_n 2, 1) := by decide +kernel
theorem dX4_renameHinders_5 : decode cX4_renameHinders 5 = .ok (.iconst 2, 1) := by decide +kernel
theorem dX4_renameHinders_6 : decode cX4_renameHinders 6 = .ok (.invokestatic 61, 3) := by decide +kernel
theorem dX4_renameHinders_9 : decode cX4_renameHinders 9 = .ok (.ifCond .eq 18, 3) := by decide +kernel
theorem dX4_renameHinders_12 : decode cX4_renameHinders 12 = .ok (.aload_n 0, 1) := by decide +kernel
theorem dX4_renameHinders_13 : decode cX4_renameHinders 13 = .ok (.getfield 9, 3) := by decide +kernel
theorem dX4_renameHinders_16 : decode cX4_renameHinders 16 = .ok (.iload_n 3, 1) := by decide +kernel
theorem dX4_renameHinders_17 : decode cX4_renameHinders 17 = .ok (.iload_n 2, 1) := by decide +kernel
theorem dX4_renameHinders_18 : decode cX4_renameHinders 18 = .ok (.invokestatic 183, 3) := by decide +kernel
theorem dX4_renameHinders_21 : decode cX4_renameHinders 21 = .ok (.ifCond .eq 6, 3) := by decide +kernel
theorem dX4_renameHinders_24 : decode cX4_renameHinders 24 = .ok (.bipush (-6), 2) := by decide +kernel
theorem dX4_renameHinders_26 : decode cX4_renameHinders 26 = .ok (.ireturn, 1) := by decide +kernel
theorem dX4_renameHinders_27 : decode cX4_renameHinders 27 = .ok (.iload 4, 2) := by decide +kernel
theorem dX4_renameHinders_29 : decode cX4_renameHinders 29 = .ok (.ifCond .lt 28, 3) := by decide +kernel
theorem dX4_renameHinders_32 : decode cX4_renameHinders 32 = .ok (.aload_n 0, 1) := by decide +kernel
theorem dX4_renameHinders_33 : decode cX4_renameHinders 33 = .ok (.getfield 9, 3) := by decide +kernel
theorem dX4_renameHinders_36 : decode cX4_renameHinders 36 = .ok (.iload_n 2, 1) := by decide +kernel
theorem dX4_renameHinders_37 : decode cX4_renameHinders 37 = .ok (.iconst 2, 1) := by decide +kernel
theorem dX4_renameHinders_38 : decode cX4_renameHinders 38 = .ok (.invokestatic 61, 3) := by decide +kernel
theorem dX4_renameHinders_41 : decode cX4_renameHinders 41 = .ok (.aload_n 0, 1) := by decide +kernel
theorem dX4_renameHinders_42 : decode cX4_renameHinders 42 = .ok (.getfield 9, 3) := by decide +kernel
theorem dX4_renameHinders_45 : decode cX4_renameHinders 45 = .ok (.iload 4, 2) := by decide +kernel
theorem dX4_renameHinders_47 : decode cX4_renameHinders 47 = .ok (.iconst 2, 1) := by decide +kernel
theorem dX4_renameHinders_48 : decode cX4_renameHinders 48 = .ok (.invokestatic 61, 3) := by decide +kernel
theorem dX4_renameHinders_51 : decode cX4_renameHinders 51 = .ok (.if_icmp .eq 6, 3) := by decide +kernel
theorem dX4_renameHinders_54 : decode cX4_renameHinders 54 = .ok (.bipush (-3), 2) := by decide +kernel
theorem dX4_renameHinders_56 : decode cX4_renameHinders 56 = .ok (.ireturn, 1) := by decide +kernel
theorem dX4_renameHinders_57 : decode cX4_renameHinders 57 = .ok (.iload 4, 2) := by decide +kernel
theorem dX4_renameHinders_59 : decode cX4_renameHinders 59 = .ok (.ifCond .lt 31, 3) := by decide +kernel
theorem dX4_renameHinders_62 : decode cX4_renameHinders 62 = .ok (.aload_n 0, 1) := by decide +kernel
theorem dX4_renameHinders_63 : decode cX4_renameHinders 63 = .ok (.getfield 9, 3) := by decide +kernel
theorem dX4_renameHinders_66 : decode cX4_renameHinders 66 = .ok (.iload 4, 2) := by decide +kernel
theorem dX4_renameHinders_68 : decode cX4_renameHinders 68 = .ok (.iconst 2, 1) := by decide +kernel
theorem dX4_renameHinders_69 : decode cX4_renameHinders 69 = .ok (.invokestatic 61, 3) := by decide +kernel
theorem dX4_renameHinders_72 : decode cX4_renameHinders 72 = .ok (.ifCond .eq 18, 3) := by decide +kernel
theorem dX4_renameHinders_75 : decode cX4_renameHinders 75 = .ok (.aload_n 0, 1) := by decide +kernel
theorem dX4_renameHinders_76 : decode cX4_renameHinders 76 = .ok (.getfield 9, 3) := by decide +kernel
theorem dX4_renameHinders_79 : decode cX4_renameHinders 79 = .ok (.iload 4, 2) := by decide +kernel
theorem dX4_renameHinders_81 : decode cX4_renameHinders 81 = .ok (.invokestatic 53, 3) := by decide +kernel
theorem dX4_renameHinders_84 : decode cX4_renameHinders 84 = .ok (.ifCond .le 6, 3) := by decide +kernel
theorem dX4_renameHinders_87 : decode cX4_renameHinders 87 = .ok (.bipush (-4), 2) := by decide +kernel
theorem dX4_renameHinders_89 : decode cX4_renameHinders 89 = .ok (.ireturn, 1) := by decide +kernel
theorem dX4_renameHinders_90 : decode cX4_renameHinders 90 = .ok (.iload_n 3, 1) := by decide +kernel
theorem dX4_renameHinders_91 : decode cX4_renameHinders 91 = .ok (.iload_n 1, 1) := by decide +kernel
theorem dX4_renameHinders_92 : decode cX4_renameHinders 92 = .ok (.if_icmp .eq 26, 3) := by decide +kernel
theorem dX4_renameHinders_95 : decode cX4_renameHinders 95 = .ok (.iload 4, 2) := by decide +kernel
theorem dX4_renameHinders_97 : decode cX4_renameHinders 97 = .ok (.ifCond .ge 21, 3) := by decide +kernel
theorem dX4_renameHinders_100 : decode cX4_renameHinders 100 = .ok (.aload_n 0, 1) := by decide +kernel
theorem dX4_renameHinders_101 : decode cX4_renameHinders 101 = .ok (.getfield 9, 3) := by decide +kernel
theorem dX4_renameHinders_104 : decode cX4_renameHinders 104 = .ok (.iload_n 3, 1) := by decide +kernel
theorem dX4_renameHinders_105 : decode cX4_renameHinders 105 = .ok (.invokestatic 53, 3) := by decide +kernel
theorem dX4_renameHinders_108 : decode cX4_renameHinders 108 = .ok (.bipush 12, 2) := by decide +kernel
theorem dX4_renameHinders_110 : decode cX4_renameHinders 110 = .ok (.if_icmp .ne 8, 3) := by decide +kernel
theorem dX4_renameHinders_113 : decode cX4_renameHinders 113 = .ok (.bipush (-5), 2) := by decide +kernel
theorem dX4_renameHinders_115 : decode cX4_renameHinders 115 = .ok (.goto 4, 3) := by decide +kernel
theorem dX4_renameHinders_118 : decode cX4_renameHinders 118 = .ok (.iconst 0, 1) := by decide +kernel
theorem dX4_renameHinders_119 : decode cX4_renameHinders 119 = .ok (.ireturn, 1) := by decide +kernel
theorem dX4_rename_0 : decode cX4_rename 0 = .ok (.aload_n 0, 1) := by decide +kernel
theorem dX4_rename_1 : decode cX4_rename 1 = .ok (.iload_n 1, 1) := by decide +kernel
theorem dX4_rename_2 : decode cX4_rename 2 = .ok (.iload_n 2, 1) := by decide +kernel
theorem dX4_rename_3 : decode cX4_rename 3 = .ok (.iload_n 3, 1) := by decide +kernel
theorem dX4_rename_4 : decode cX4_rename 4 = .ok (.iload 4, 2) := by decide +kernel
theorem dX4_rename_6 : decode cX4_rename 6 = .ok (.invokevirtual 186, 3) := by decide +kernel
theorem dX4_rename_9 : decode cX4_rename 9 = .ok (.ifCond .eq 5, 3) := by decide +kernel
theorem dX4_rename_12 : decode cX4_rename 12 = .ok (.iconst 0, 1) := by decide +kernel
theorem dX4_rename_13 : decode cX4_rename 13 = .ok (.ireturn, 1) := by decide +kernel
theorem dX4_rename_14 : decode cX4_rename 14 = .ok (.aload_n 0, 1) := by decide +kernel
theorem dX4_rename_15 : decode cX4_rename 15 = .ok (.getfield 9, 3) := by decide +kernel
theorem dX4_rename_18 : decode cX4_rename 18 = .ok (.iload_n 1, 1) := by decide +kernel
theorem dX4_rename_19 : decode cX4_rename 19 = .ok (.iconst 2, 1) := by decide +kernel
theorem dX4_rename_20 : decode cX4_rename 20 = .ok (.invokestatic 61, 3) := by decide +kernel
theorem dX4_rename_23 : decode cX4_rename 23 = .ok (.ifCond .eq 15, 3) := by decide +kernel
theorem dX4_rename_26 : decode cX4_rename 26 = .ok (.aload_n 0, 1) := by decide +kernel
theorem dX4_rename_27 : decode cX4_rename 27 = .ok (.getfield 9, 3) := by decide +kernel
theorem dX4_rename_30 : decode cX4_rename 30 = .ok (.iload_n 3, 1) := by decide +kernel
theorem dX4_rename_31 : decode cX4_rename 31 = .ok (.iconst 2, 1) := by decide +kernel
theorem dX4_rename_32 : decode cX4_rename 32 = .ok (.invokestatic 61, 3) := by decide +kernel
theorem dX4_rename_35 : decode cX4_rename 35 = .ok (.ifCond .ne 6, 3) := by decide +kernel
theorem dX4_rename_38 : decode cX4_rename 38 = .ok (.bipush (-3), 2) := by decide +kernel
theorem dX4_rename_40 : decode cX4_rename 40 = .ok (.ireturn, 1) := by decide +kernel
theorem dX4_rename_41 : decode cX4_rename 41 = .ok (.aload_n 0, 1) := by decide +kernel
theorem dX4_rename_42 : decode cX4_rename 42 = .ok (.getfield 9, 3) := by decide +kernel
theorem dX4_rename_45 : decode cX4_rename 45 = .ok (.iload_n 1, 1) := by decide +kernel
theorem dX4_rename_46 : decode cX4_rename 46 = .ok (.iload_n 2, 1) := by decide +kernel
theorem dX4_rename_47 : decode cX4_rename 47 = .ok (.invokestatic 173, 3) := by decide +kernel
theorem dX4_rename_50 : decode cX4_rename 50 = .ok (.istore 5, 2) := by decide +kernel
theorem dX4_rename_52 : decode cX4_rename 52 = .ok (.iload 5, 2) := by decide +kernel
theorem dX4_rename_54 : decode cX4_rename 54 = .ok (.ifCond .ge 5, 3) := by decide +kernel
theorem dX4_rename_57 : decode cX4_rename 57 = .ok (.iconst (-1), 1) := by decide +kernel
theorem dX4_rename_58 : decode cX4_rename 58 = .ok (.ireturn, 1) := by decide +kernel
theorem dX4_rename_59 : decode cX4_rename 59 = .ok (.aload_n 0, 1) := by decide +kernel
theorem dX4_rename_60 : decode cX4_rename 60 = .ok (.getfield 9, 3) := by decide +kernel
theorem dX4_rename_63 : decode cX4_rename 63 = .ok (.iload_n 3, 1) := by decide +kernel
theorem dX4_rename_64 : decode cX4_rename 64 = .ok (.iload 4, 2) := by decide +kernel
theorem dX4_rename_66 : decode cX4_rename 66 = .ok (.invokestatic 173, 3) := by decide +kernel
theorem dX4_rename_69 : decode cX4_rename 69 = .ok (.istore 6, 2) := by decide +kernel
theorem dX4_rename_71 : decode cX4_rename 71 = .ok (.aload_n 0, 1) := by decide +kernel
theorem dX4_rename_72 : decode cX4_rename 72 = .ok (.invokevirtual 138, 3) := by decide +kernel
theorem dX4_rename_75 : decode cX4_rename 75 = .ok (.iload 6, 2) := by decide +kernel
theorem dX4_rename_77 : decode cX4_rename 77 = .ok (.iload 5, 2) := by decide +kernel
theorem dX4_rename_79 : decode cX4_rename 79 = .ok (.if_icmp .ne 10, 3) := by decide +kernel
theorem dX4_rename_82 : decode cX4_rename 82 = .ok (.aload_n 0, 1) := by decide +kernel
theorem dX4_rename_83 : decode cX4_rename 83 = .ok (.iload 5, 2) := by decide +kernel
theorem dX4_rename_85 : decode cX4_rename 85 = .ok (.invokevirtual 113, 3) := by decide +kernel
theorem dX4_rename_88 : decode cX4_rename 88 = .ok (.ireturn, 1) := by decide +kernel
theorem dX4_rename_89 : decode cX4_rename 89 = .ok (.aload_n 0, 1) := by decide +kernel
theorem dX4_rename_90 : decode cX4_rename 90 = .ok (.iload_n 1, 1) := by decide +kernel
theorem dX4_rename_91 : decode cX4_rename 91 = .ok (.iload 5, 2) := by decide +kernel
theorem dX4_rename_93 : decode cX4_rename 93 = .ok (.iload_n 3, 1) := by decide +kernel
theorem dX4_rename_94 : decode cX4_rename 94 = .ok (.iload 6, 2) := by decide +kernel
theorem dX4_rename_96 : decode cX4_rename 96 = .ok (.invokevirtual 190, 3) := by decide +kernel
theorem dX4_rename_99 : decode cX4_rename 99 = .ok (.istore 7, 2) := by decide +kernel
theorem dX4_rename_101 : decode cX4_rename 101 = .ok (.iload 7, 2) := by decide +kernel
theorem dX4_rename_103 : decode cX4_rename 103 = .ok (.ifCond .ge 6, 3) := by decide +kernel
theorem dX4_rename_106 : decode cX4_rename 106 = .ok (.iload 7, 2) := by decide +kernel
theorem dX4_rename_108 : decode cX4_rename 108 = .ok (.ireturn, 1) := by decide +kernel
theorem dX4_rename_109 : decode cX4_rename 109 = .ok (.aload_n 0, 1) := by decide +kernel
theorem dX4_rename_110 : decode cX4_rename 110 = .ok (.getfield 16, 3) := by decide +kernel
theorem dX4_rename_113 : decode cX4_rename 113 = .ok (.iload_n 1, 1) := by decide +kernel
theorem dX4_rename_114 : decode cX4_rename 114 = .ok (.iload_n 2, 1) := by decide +kernel
theorem dX4_rename_115 : decode cX4_rename 115 = .ok (.invokestatic 176, 3) := by decide +kernel
theorem dX4_rename_118 : decode cX4_rename 118 = .ok (.iload 6, 2) := by decide +kernel
theorem dX4_rename_120 : decode cX4_rename 120 = .ok (.ifCond .lt 19, 3) := by decide +kernel
theorem dX4_rename_123 : decode cX4_rename 123 = .ok (.aload_n 0, 1) := by decide +kernel
theorem dX4_rename_124 : decode cX4_rename 124 = .ok (.getfield 16, 3) := by decide +kernel
theorem dX4_rename_127 : decode cX4_rename 127 = .ok (.iload_n 3, 1) := by decide +kernel
theorem dX4_rename_128 : decode cX4_rename 128 = .ok (.iload 4, 2) := by decide +kernel
theorem dX4_rename_130 : decode cX4_rename 130 = .ok (.invokestatic 176, 3) := by decide +kernel
theorem dX4_rename_133 : decode cX4_rename 133 = .ok (.aload_n 0, 1) := by decide +kernel
theorem dX4_rename_134 : decode cX4_rename 134 = .ok (.iload 6, 2) := by decide +kernel
theorem dX4_rename_136 : decode cX4_rename 136 = .ok (.invokevirtual 180, 3) := by decide +kernel
theorem dX4_rename_139 : decode cX4_rename 139 = .ok (.aload_n 0, 1) := by decide +kernel
theorem dX4_rename_140 : decode cX4_rename 140 = .ok (.getfield 16, 3) := by decide +kernel
theorem dX4_rename_143 : decode cX4_rename 143 = .ok (.iload_n 3, 1) := by decide +kernel
theorem dX4_rename_144 : decode cX4_rename 144 = .ok (.iload 4, 2) := by decide +kernel
theorem dX4_rename_146 : decode cX4_rename 146 = .ok (.iload 5, 2) := by decide +kernel
theorem dX4_rename_148 : decode cX4_rename 148 = .ok (.invokestatic 144, 3) := by decide +kernel
theorem dX4_rename_151 : decode cX4_rename 151 = .ok (.aload_n 0, 1) := by decide +kernel
theorem dX4_rename_152 : decode cX4_rename 152 = .ok (.aload_n 0, 1) := by decide +kernel
theorem dX4_rename_153 : decode cX4_rename 153 = .ok (.invokevirtual 159, 3) := by decide +kernel
theorem dX4_rename_156 : decode cX4_rename 156 = .ok (.iload 5, 2) := by decide +kernel
theorem dX4_rename_158 : decode cX4_rename 158 = .ok (.invokevirtual 163, 3) := by decide +kernel
theorem dX4_rename_161 : decode cX4_rename 161 = .ok (.ireturn, 1) := by decide +kernel
theorem dX4_exchange_0 : decode cX4_exchange 0 = .ok (.aload_n 0, 1) := by decide +kernel
theorem dX4_exchange_1 : decode cX4_exchange 1 = .ok (.iload_n 1, 1) := by decide +kernel
theorem dX4_exchange_2 : decode cX4_exchange 2 = .ok (.iload_n 2, 1) := by decide +kernel
theorem dX4_exchange_3 : decode cX4_exchange 3 = .ok (.iload_n 3, 1) := by decide +kernel
theorem dX4_exchange_4 : decode cX4_exchange 4 = .ok (.iload 4, 2) := by decide +kernel
theorem dX4_exchange_6 : decode cX4_exchange 6 = .ok (.invokevirtual 186, 3) := by decide +kernel
theorem dX4_exchange_9 : decode cX4_exchange 9 = .ok (.ifCond .eq 5, 3) := by decide +kernel
theorem dX4_exchange_12 : decode cX4_exchange 12 = .ok (.iconst 0, 1) := by decide +kernel
theorem dX4_exchange_13 : decode cX4_exchange 13 = .ok (.ireturn, 1) := by decide +kernel
theorem dX4_exchange_14 : decode cX4_exchange 14 = .ok (.aload_n 0, 1) := by decide +kernel
theorem dX4_exchange_15 : decode cX4_exchange 15 = .ok (.getfield 9, 3) := by decide +kernel
theorem dX4_exchange_18 : decode cX4_exchange 18 = .ok (.iload_n 1, 1) := by decide +kernel
theorem dX4_exchange_19 : decode cX4_exchange 19 = .ok (.iconst 2, 1) := by decide +kernel
theorem dX4_exchange_20 : decode cX4_exchange 20 = .ok (.invokestatic 61, 3) := by decide +kernel
theorem dX4_exchange_23 : decode cX4_exchange 23 = .ok (.ifCond .eq 15, 3) := by decide +kernel
theorem dX4_exchange_26 : decode cX4_exchange 26 = .ok (.aload_n 0, 1) := by decide +kernel
theorem dX4_exchange_27 : decode cX4_exchange 27 = .ok (.getfield 9, 3) := by decide +kernel
theorem dX4_exchange_30 : decode cX4_exchange 30 = .ok (.iload_n 3, 1) := by decide +kernel
theorem dX4_exchange_31 : decode cX4_exchange 31 = .ok (.iconst 2, 1) := by decide +kernel
theorem dX4_exchange_32 : decode cX4_exchange 32 = .ok (.invokestatic 61, 3) := by decide +kernel
theorem dX4_exchange_35 : decode cX4_exchange 35 = .ok (.ifCond .ne 6, 3) := by decide +kernel
theorem dX4_exchange_38 : decode cX4_exchange 38 = .ok (.bipush (-3), 2) := by decide +kernel
theorem dX4_exchange_40 : decode cX4_exchange 40 = .ok (.ireturn, 1) := by decide +kernel
theorem dX4_exchange_41 : decode cX4_exchange 41 = .ok (.aload_n 0, 1) := by decide +kernel
theorem dX4_exchange_42 : decode cX4_exchange 42 = .ok (.getfield 9, 3) := by decide +kernel
theorem dX4_exchange_45 : decode cX4_exchange 45 = .ok (.iload_n 1, 1) := by decide +kernel
theorem dX4_exchange_46 : decode cX4_exchange 46 = .ok (.iload_n 2, 1) := by decide +kernel
theorem dX4_exchange_47 : decode cX4_exchange 47 = .ok (.invokestatic 57, 3) := by decide +kernel
theorem dX4_exchange_50 : decode cX4_exchange 50 = .ok (.istore 5, 2) := by decide +kernel
theorem dX4_exchange_52 : decode cX4_exchange 52 = .ok (.aload_n 0, 1) := by decide +kernel
theorem dX4_exchange_53 : decode cX4_exchange 53 = .ok (.getfield 9, 3) := by decide +kernel
theorem dX4_exchange_56 : decode cX4_exchange 56 = .ok (.iload_n 3, 1) := by decide +kernel
theorem dX4_exchange_57 : decode cX4_exchange 57 = .ok (.iload 4, 2) := by decide +kernel
theorem dX4_exchange_59 : decode cX4_exchange 59 = .ok (.invokestatic 57, 3) := by decide +kernel
theorem dX4_exchange_62 : decode cX4_exchange 62 = .ok (.istore 6, 2) := by decide +kernel
theorem dX4_exchange_64 : decode cX4_exchange 64 = .ok (.iload 5, 2) := by decide +kernel
theorem dX4_exchange_66 : decode cX4_exchange 66 = .ok (.ifCond .lt 8, 3) := by decide +kernel
theorem dX4_exchange_69 : decode cX4_exchange 69 = .ok (.iload 6, 2) := by decide +kernel
theorem dX4_exchange_71 : decode cX4_exchange 71 = .ok (.ifCond .ge 5, 3) := by decide +kernel
theorem dX4_exchange_74 : decode cX4_exchange 74 = .ok (.iconst (-1), 1) := by decide +kernel
theorem dX4_exchange_75 : decode cX4_exchange 75 = .ok (.ireturn, 1) := by decide +kernel
theorem dX4_exchange_76 : decode cX4_exchange 76 = .ok (.aload_n 0, 1) := by decide +kernel
theorem dX4_exchange_77 : decode cX4_exchange 77 = .ok (.getfield 9, 3) := by decide +kernel
theorem dX4_exchange_80 : decode cX4_exchange 80 = .ok (.sipush 1216, 3) := by decide +kernel
theorem dX4_exchange_83 : decode cX4_exchange 83 = .ok (.iload 5, 2) := by decide +kernel
theorem dX4_exchange_85 : decode cX4_exchange 85 = .ok (.iadd, 1) := by decide +kernel
theorem dX4_exchange_86 : decode cX4_exchange 86 = .ok (.iaload, 1) := by decide +kernel
theorem dX4_exchange_87 : decode cX4_exchange 87 = .ok (.istore 7, 2) := by decide +kernel
theorem dX4_exchange_89 : decode cX4_exchange 89 = .ok (.aload_n 0, 1) := by decide +kernel
theorem dX4_exchange_90 : decode cX4_exchange 90 = .ok (.getfield 9, 3) := by decide +kernel
theorem dX4_exchange_93 : decode cX4_exchange 93 = .ok (.sipush 1216, 3) := by decide +kernel
theorem dX4_exchange_96 : decode cX4_exchange 96 = .ok (.iload 6, 2) := by decide +kernel
theorem dX4_exchange_98 : decode cX4_exchange 98 = .ok (.iadd, 1) := by decide +kernel
theorem dX4_exchange_99 : decode cX4_exchange 99 = .ok (.iaload, 1) := by decide +kernel
theorem dX4_exchange_100 : decode cX4_exchange 100 = .ok (.istore 8, 2) := by decide +kernel
theorem dX4_exchange_102 : decode cX4_exchange 102 = .ok (.aload_n 0, 1) := by decide +kernel
theorem dX4_exchange_103 : decode cX4_exchange 103 = .ok (.getfield 9, 3) := by decide +kernel
theorem dX4_exchange_106 : decode cX4_exchange 106 = .ok (.iload 7, 2) := by decide +kernel
theorem dX4_exchange_108 : decode cX4_exchange 108 = .ok (.iconst 2, 1) := by decide +kernel
theorem dX4_exchange_109 : decode cX4_exchange 109 = .ok (.invokestatic 61, 3) := by decide +kernel
theorem dX4_exchange_112 : decode cX4_exchange 112 = .ok (.ifCond .eq 16, 3) := by decide +kernel
theorem dX4_exchange_115 : decode cX4_exchange 115 = .ok (.aload_n 0, 1) := by decide +kernel
theorem dX4_exchange_116 : decode cX4_exchange 116 = .ok (.getfield 9, 3) := by decide +kernel
theorem dX4_exchange_119 : decode cX4_exchange 119 = .ok (.iload_n 3, 1) := by decide +kernel
theorem dX4_exchange_120 : decode cX4_exchange 120 = .ok (.iload 7, 2) := by decide +kernel
theorem dX4_exchange_122 : decode cX4_exchange 122 = .ok (.invokestatic 183, 3) := by decide +kernel
theorem dX4_exchange_125 : decode cX4_exchange 125 = .ok (.ifCond .ne 29, 3) := by decide +kernel
theorem dX4_exchange_128 : decode cX4_exchange 128 = .ok (.aload_n 0, 1) := by decide +kernel
theorem dX4_exchange_129 : decode cX4_exchange 129 = .ok (.getfield 9, 3) := by decide +kernel
theorem dX4_exchange_132 : decode cX4_exchange 132 = .ok (.iload 8, 2) := by decide +kernel
theorem dX4_exchange_134 : decode cX4_exchange 134 = .ok (.iconst 2, 1) := by decide +kernel
theorem dX4_exchange_135 : decode cX4_exchange 135 = .ok (.invokestatic 61, 3) := by decide +kernel
theorem dX4_exchange_138 : decode cX4_exchange 138 = .ok (.ifCond .eq 19, 3) := by decide +kernel
theorem dX4_exchange_141 : decode cX4_exchange 141 = .ok (.aload_n 0, 1) := by decide +kernel
theorem dX4_exchange_142 : decode cX4_exchange 142 = .ok (.getfield 9, 3) := by decide +kernel
theorem dX4_exchange_145 : decode cX4_exchange 145 = .ok (.iload_n 1, 1) := by decide +kernel
theorem dX4_exchange_146 : decode cX4_exchange 146 = .ok (.iload 8, 2) := by decide +kernel
theorem dX4_exchange_148 : decode cX4_exchange 148 = .ok (.invokestatic 183, 3) := by decide +kernel
theorem dX4_exchange_151 : decode cX4_exchange 151 = .ok (.ifCond .eq 6, 3) := by decide +kernel
theorem dX4_exchange_154 : decode cX4_exchange 154 = .ok (.bipush (-6), 2) := by decide +kernel
theorem dX4_exchange_156 : decode cX4_exchange 156 = .ok (.ireturn, 1) := by decide +kernel
theorem dX4_exchange_157 : decode cX4_exchange 157 = .ok (.aload_n 0, 1) := by decide +kernel
theorem dX4_exchange_158 : decode cX4_exchange 158 = .ok (.invokevirtual 138, 3) := by decide +kernel
theorem dX4_exchange_161 : decode cX4_exchange 161 = .ok (.aload_n 0, 1) := by decide +kernel
theorem dX4_exchange_162 : decode cX4_exchange 162 = .ok (.getfield 16, 3) := by decide +kernel
theorem dX4_exchange_165 : decode cX4_exchange 165 = .ok (.sipush 1216, 3) := by decide +kernel
theorem dX4_exchange_168 : decode cX4_exchange 168 = .ok (.iload 5, 2) := by decide +kernel
theorem dX4_exchange_170 : decode cX4_exchange 170 = .ok (.iadd, 1) := by decide +kernel
theorem dX4_exchange_171 : decode cX4_exchange 171 = .ok (.iload 8, 2) := by decide +kernel
theorem dX4_exchange_173 : decode cX4_exchange 173 = .ok (.iastore, 1) := by decide +kernel
theorem dX4_exchange_174 : decode cX4_exchange 174 = .ok (.aload_n 0, 1) := by decide +kernel
theorem dX4_exchange_175 : decode cX4_exchange 175 = .ok (.getfield 16, 3) := by decide +kernel
theorem dX4_exchange_178 : decode cX4_exchange 178 = .ok (.sipush 1216, 3) := by decide +kernel
theorem dX4_exchange_181 : decode cX4_exchange 181 = .ok (.iload 6, 2) := by decide +kernel
theorem dX4_exchange_183 : decode cX4_exchange 183 = .ok (.iadd, 1) := by decide +kernel
theorem dX4_exchange_184 : decode cX4_exchange 184 = .ok (.iload 7, 2) := by decide +kernel
theorem dX4_exchange_186 : decode cX4_exchange 186 = .ok (.iastore, 1) := by decide +kernel
theorem dX4_exchange_187 : decode cX4_exchange 187 = .ok (.aload_n 0, 1) := by decide +kernel
theorem dX4_exchange_188 : decode cX4_exchange 188 = .ok (.iload 8, 2) := by decide +kernel
theorem dX4_exchange_190 : decode cX4_exchange 190 = .ok (.invokevirtual 113, 3) := by decide +kernel
theorem dX4_exchange_193 : decode cX4_exchange 193 = .ok (.ireturn, 1) := by decide +kernel
theorem dX4_write_0 : decode cX4_write 0 = .ok (.aload_n 0, 1) := by decide +kernel
theorem dX4_write_1 : decode cX4_write 1 = .ok (.invokevirtual 129, 3) := by decide +kernel
theorem dX4_write_4 : decode cX4_write 4 = .ok (.ifCond .eq 5, 3) := by decide +kernel
theorem dX4_write_7 : decode cX4_write 7 = .ok (.iconst 0, 1) := by decide +kernel
theorem dX4_write_8 : decode cX4_write 8 = .ok (.ireturn, 1) := by decide +kernel
theorem dX4_write_9 : decode cX4_write 9 = .ok (.aload_n 0, 1) := by decide +kernel
theorem dX4_write_10 : decode cX4_write 10 = .ok (.iload_n 1, 1) := by decide +kernel
theorem dX4_write_11 : decode cX4_write 11 = .ok (.invokevirtual 194, 3) := by decide +kernel
theorem dX4_write_14 : decode cX4_write 14 = .ok (.ifCond .ne 12, 3) := by decide +kernel
theorem dX4_write_17 : decode cX4_write 17 = .ok (.aload_n 0, 1) := by decide +kernel
theorem dX4_write_18 : decode cX4_write 18 = .ok (.iconst 2, 1) := by decide +kernel
theorem dX4_write_19 : decode cX4_write 19 = .ok (.invokevirtual 45, 3) := by decide +kernel
theorem dX4_write_22 : decode cX4_write 22 = .ok (.pop, 1) := by decide +kernel
theorem dX4_write_23 : decode cX4_write 23 = .ok (.goto 30, 3) := by decide +kernel
theorem dX4_write_26 : decode cX4_write 26 = .ok (.iload_n 2, 1) := by decide +kernel
theorem dX4_write_27 : decode cX4_write 27 = .ok (.iconst 1, 1) := by decide +kernel
theorem dX4_write_28 : decode cX4_write 28 = .ok (.bipush 64, 2) := by decide +kernel
theorem dX4_write_30 : decode cX4_write 30 = .ok (.invokestatic 49, 3) := by decide +kernel
theorem dX4_write_33 : decode cX4_write 33 = .ok (.ifCond .eq 14, 3) := by decide +kernel
theorem dX4_write_36 : decode cX4_write 36 = .ok (.iload_n 3, 1) := by decide +kernel
theorem dX4_write_37 : decode cX4_write 37 = .ok (.iconst 0, 1) := by decide +kernel
theorem dX4_write_38 : decode cX4_write 38 = .ok (.sipush 255, 3) := by decide +kernel
theorem dX4_write_41 : decode cX4_write 41 = .ok (.invokestatic 49, 3) := by decide +kernel
theorem dX4_write_44 : decode cX4_write 44 = .ok (.ifCond .ne 9, 3) := by decide +kernel
theorem dX4_write_47 : decode cX4_write 47 = .ok (.aload_n 0, 1) := by decide +kernel
theorem dX4_write_48 : decode cX4_write 48 = .ok (.iconst 3, 1) := by decide +kernel
theorem dX4_write_49 : decode cX4_write 49 = .ok (.invokevirtual 45, 3) := by decide +kernel
theorem dX4_write_52 : decode cX4_write 52 = .ok (.pop, 1) := by decide +kernel
theorem dX4_write_53 : decode cX4_write 53 = .ok (.aload_n 0, 1) := by decide +kernel
theorem dX4_write_54 : decode cX4_write 54 = .ok (.getfield 38, 3) := by decide +kernel
theorem dX4_write_57 : decode cX4_write 57 = .ok (.ifCond .le 5, 3) := by decide +kernel
theorem dX4_write_60 : decode cX4_write 60 = .ok (.iconst 0, 1) := by decide +kernel
theorem dX4_write_61 : decode cX4_write 61 = .ok (.ireturn, 1) := by decide +kernel
theorem dX4_write_62 : decode cX4_write 62 = .ok (.aload_n 0, 1) := by decide +kernel
theorem dX4_write_63 : decode cX4_write 63 = .ok (.getfield 19, 3) := by decide +kernel
theorem dX4_write_66 : decode cX4_write 66 = .ok (.iload_n 1, 1) := by decide +kernel
theorem dX4_write_67 : decode cX4_write 67 = .ok (.iaload, 1) := by decide +kernel
theorem dX4_write_68 : decode cX4_write 68 = .ok (.istore 4, 2) := by decide +kernel
theorem dX4_write_70 : decode cX4_write 70 = .ok (.aload_n 0, 1) := by decide +kernel
theorem dX4_write_71 : decode cX4_write 71 = .ok (.getfield 22, 3) := by decide +kernel
theorem dX4_write_74 : decode cX4_write 74 = .ok (.iload_n 1, 1) := by decide +kernel
theorem dX4_write_75 : decode cX4_write 75 = .ok (.iaload, 1) := by decide +kernel
theorem dX4_write_76 : decode cX4_write 76 = .ok (.istore 5, 2) := by decide +kernel
theorem dX4_write_78 : decode cX4_write 78 = .ok (.iload 5, 2) := by decide +kernel
theorem dX4_write_80 : decode cX4_write 80 = .ok (.iload_n 2, 1) := by decide +kernel
theorem dX4_write_81 : decode cX4_write 81 = .ok (.iadd, 1) := by decide +kernel
theorem dX4_write_82 : decode cX4_write 82 = .ok (.sipush 320, 3) := by decide +kernel
theorem dX4_write_85 : decode cX4_write 85 = .ok (.if_icmp .le 6, 3) := by decide +kernel
theorem dX4_write_88 : decode cX4_write 88 = .ok (.bipush (-5), 2) := by decide +kernel
theorem dX4_write_90 : decode cX4_write 90 = .ok (.ireturn, 1) := by decide +kernel
theorem dX4_write_91 : decode cX4_write 91 = .ok (.aload_n 0, 1) := by decide +kernel
theorem dX4_write_92 : decode cX4_write 92 = .ok (.invokevirtual 138, 3) := by decide +kernel
theorem dX4_write_95 : decode cX4_write 95 = .ok (.iconst 0, 1) := by decide +kernel
theorem dX4_write_96 : decode cX4_write 96 = .ok (.istore 6, 2) := by decide +kernel
theorem dX4_write_98 : decode cX4_write 98 = .ok (.iload 6, 2) := by decide +kernel
theorem dX4_write_100 : decode cX4_write 100 = .ok (.iload_n 2, 1) := by decide +kernel
theorem dX4_write_101 : decode cX4_write 101 = .ok (.if_icmp .ge 31, 3) := by decide +kernel
theorem dX4_write_104 : decode cX4_write 104 = .ok (.aload_n 0, 1) := by decide +kernel
theorem dX4_write_105 : decode cX4_write 105 = .ok (.getfield 16, 3) := by decide +kernel
theorem dX4_write_108 : decode cX4_write 108 = .ok (.iload 4, 2) := by decide +kernel
theorem dX4_write_110 : decode cX4_write 110 = .ok (.iload 5, 2) := by decide +kernel
theorem dX4_write_112 : decode cX4_write 112 = .ok (.iload 6, 2) := by decide +kernel
theorem dX4_write_114 : decode cX4_write 114 = .ok (.iadd, 1) := by decide +kernel
theorem dX4_write_115 : decode cX4_write 115 = .ok (.iload_n 3, 1) := by decide +kernel
theorem dX4_write_116 : decode cX4_write 116 = .ok (.iload 6, 2) := by decide +kernel
theorem dX4_write_118 : decode cX4_write 118 = .ok (.iadd, 1) := by decide +kernel
theorem dX4_write_119 : decode cX4_write 119 = .ok (.sipush 256, 3) := by decide +kernel
theorem dX4_write_122 : decode cX4_write 122 = .ok (.irem, 1) := by decide +kernel
theorem dX4_write_123 : decode cX4_write 123 = .ok (.invokestatic 197, 3) := by decide +kernel
theorem dX4_write_126 : decode cX4_write 126 = .ok (.iinc 6 1, 3) := by decide +kernel
theorem dX4_write_129 : decode cX4_write 129 = .ok (.goto (-31), 3) := by decide +kernel
theorem dX4_write_132 : decode cX4_write 132 = .ok (.aload_n 0, 1) := by decide +kernel
theorem dX4_write_133 : decode cX4_write 133 = .ok (.getfield 16, 3) := by decide +kernel
theorem dX4_write_136 : decode cX4_write 136 = .ok (.bipush 64, 2) := by decide +kernel
theorem dX4_write_138 : decode cX4_write 138 = .ok (.iload 4, 2) := by decide +kernel
theorem dX4_write_140 : decode cX4_write 140 = .ok (.iadd, 1) := by decide +kernel
theorem dX4_write_141 : decode cX4_write 141 = .ok (.aload_n 0, 1) := by decide +kernel
theorem dX4_write_142 : decode cX4_write 142 = .ok (.getfield 16, 3) := by decide +kernel
theorem dX4_write_145 : decode cX4_write 145 = .ok (.bipush 64, 2) := by decide +kernel
theorem dX4_write_147 : decode cX4_write 147 = .ok (.iload 4, 2) := by decide +kernel
theorem dX4_write_149 : decode cX4_write 149 = .ok (.iadd, 1) := by decide +kernel
theorem dX4_write_150 : decode cX4_write 150 = .ok (.iaload, 1) := by decide +kernel
theorem dX4_write_151 : decode cX4_write 151 = .ok (.iload 5, 2) := by decide +kernel
theorem dX4_write_153 : decode cX4_write 153 = .ok (.iload_n 2, 1) := by decide +kernel
theorem dX4_write_154 : decode cX4_write 154 = .ok (.iadd, 1) := by decide +kernel
theorem dX4_write_155 : decode cX4_write 155 = .ok (.invokestatic 200, 3) := by decide +kernel
theorem dX4_write_158 : decode cX4_write 158 = .ok (.iastore, 1) := by decide +kernel
theorem dX4_write_159 : decode cX4_write 159 = .ok (.aload_n 0, 1) := by decide +kernel
theorem dX4_write_160 : decode cX4_write 160 = .ok (.invokevirtual 159, 3) := by decide +kernel
theorem dX4_write_163 : decode cX4_write 163 = .ok (.istore 6, 2) := by decide +kernel
theorem dX4_write_165 : decode cX4_write 165 = .ok (.iload 6, 2) := by decide +kernel
theorem dX4_write_167 : decode cX4_write 167 = .ok (.ifCond .ge 6, 3) := by decide +kernel
theorem dX4_write_170 : decode cX4_write 170 = .ok (.iload 6, 2) := by decide +kernel
theorem dX4_write_172 : decode cX4_write 172 = .ok (.ireturn, 1) := by decide +kernel
theorem dX4_write_173 : decode cX4_write 173 = .ok (.aload_n 0, 1) := by decide +kernel
theorem dX4_write_174 : decode cX4_write 174 = .ok (.getfield 22, 3) := by decide +kernel
theorem dX4_write_177 : decode cX4_write 177 = .ok (.iload_n 1, 1) := by decide +kernel
theorem dX4_write_178 : decode cX4_write 178 = .ok (.iload 5, 2) := by decide +kernel
theorem dX4_write_180 : decode cX4_write 180 = .ok (.iload_n 2, 1) := by decide +kernel
theorem dX4_write_181 : decode cX4_write 181 = .ok (.iadd, 1) := by decide +kernel
theorem dX4_write_182 : decode cX4_write 182 = .ok (.iastore, 1) := by decide +kernel
theorem dX4_write_183 : decode cX4_write 183 = .ok (.aload_n 0, 1) := by decide +kernel
theorem dX4_write_184 : decode cX4_write 184 = .ok (.aload_n 0, 1) := by decide +kernel
theorem dX4_write_185 : decode cX4_write 185 = .ok (.getfield 16, 3) := by decide +kernel
theorem dX4_write_188 : decode cX4_write 188 = .ok (.bipush 64, 2) := by decide +kernel
theorem dX4_write_190 : decode cX4_write 190 = .ok (.iload 4, 2) := by decide +kernel
theorem dX4_write_192 : decode cX4_write 192 = .ok (.iadd, 1) := by decide +kernel
theorem dX4_write_193 : decode cX4_write 193 = .ok (.iaload, 1) := by decide +kernel
theorem dX4_write_194 : decode cX4_write 194 = .ok (.invokevirtual 113, 3) := by decide +kernel
theorem dX4_write_197 : decode cX4_write 197 = .ok (.ireturn, 1) := by decide +kernel
theorem dX4_truncate_0 : decode cX4_truncate 0 = .ok (.aload_n 0, 1) := by decide +kernel
theorem dX4_truncate_1 : decode cX4_truncate 1 = .ok (.invokevirtual 129, 3) := by decide +kernel
theorem dX4_truncate_4 : decode cX4_truncate 4 = .ok (.ifCond .eq 5, 3) := by decide +kernel
theorem dX4_truncate_7 : decode cX4_truncate 7 = .ok (.iconst 0, 1) := by decide +kernel
theorem dX4_truncate_8 : decode cX4_truncate 8 = .ok (.ireturn, 1) := by decide +kernel
theorem dX4_truncate_9 : decode cX4_truncate 9 = .ok (.aload_n 0, 1) := by decide +kernel
theorem dX4_truncate_10 : decode cX4_truncate 10 = .ok (.iload_n 1, 1) := by decide +kernel
theorem dX4_truncate_11 : decode cX4_truncate 11 = .ok (.invokevirtual 132, 3) := by decide +kernel
theorem dX4_truncate_14 : decode cX4_truncate 14 = .ok (.ifCond .ne 12, 3) := by decide +kernel
theorem dX4_truncate_17 : decode cX4_truncate 17 = .ok (.aload_n 0, 1) := by decide +kernel
theorem dX4_truncate_18 : decode cX4_truncate 18 = .ok (.iconst 2, 1) := by decide +kernel
theorem dX4_truncate_19 : decode cX4_truncate 19 = .ok (.invokevirtual 45, 3) := by decide +kernel
theorem dX4_truncate_22 : decode cX4_truncate 22 = .ok (.pop, 1) := by decide +kernel
theorem dX4_truncate_23 : decode cX4_truncate 23 = .ok (.goto 20, 3) := by decide +kernel
theorem dX4_truncate_26 : decode cX4_truncate 26 = .ok (.iload_n 2, 1) := by decide +kernel
theorem dX4_truncate_27 : decode cX4_truncate 27 = .ok (.iconst 0, 1) := by decide +kernel
theorem dX4_truncate_28 : decode cX4_truncate 28 = .ok (.sipush 320, 3) := by decide +kernel
theorem dX4_truncate_31 : decode cX4_truncate 31 = .ok (.invokestatic 49, 3) := by decide +kernel
theorem dX4_truncate_34 : decode cX4_truncate 34 = .ok (.ifCond .ne 9, 3) := by decide +kernel
theorem dX4_truncate_37 : decode cX4_truncate 37 = .ok (.aload_n 0, 1) := by decide +kernel
theorem dX4_truncate_38 : decode cX4_truncate 38 = .ok (.iconst 3, 1) := by decide +kernel
theorem dX4_truncate_39 : decode cX4_truncate 39 = .ok (.invokevirtual 45, 3) := by decide +kernel
theorem dX4_truncate_42 : decode cX4_truncate 42 = .ok (.pop, 1) := by decide +kernel
theorem dX4_truncate_43 : decode cX4_truncate 43 = .ok (.aload_n 0, 1) := by decide +kernel
theorem dX4_truncate_44 : decode cX4_truncate 44 = .ok (.getfield 38, 3) := by decide +kernel
theorem dX4_truncate_47 : decode cX4_truncate 47 = .ok (.ifCond .le 5, 3) := by decide +kernel
theorem dX4_truncate_50 : decode cX4_truncate 50 = .ok (.iconst 0, 1) := by decide +kernel
theorem dX4_truncate_51 : decode cX4_truncate 51 = .ok (.ireturn, 1) := by decide +kernel
theorem dX4_truncate_52 : decode cX4_truncate 52 = .ok (.aload_n 0, 1) := by decide +kernel
theorem dX4_truncate_53 : decode cX4_truncate 53 = .ok (.getfield 9, 3) := by decide +kernel
theorem dX4_truncate_56 : decode cX4_truncate 56 = .ok (.iload_n 1, 1) := by decide +kernel
theorem dX4_truncate_57 : decode cX4_truncate 57 = .ok (.iconst 1, 1) := by decide +kernel
theorem dX4_truncate_58 : decode cX4_truncate 58 = .ok (.invokestatic 61, 3) := by decide +kernel
theorem dX4_truncate_61 : decode cX4_truncate 61 = .ok (.ifCond .ne 6, 3) := by decide +kernel
theorem dX4_truncate_64 : decode cX4_truncate 64 = .ok (.bipush (-3), 2) := by decide +kernel
theorem dX4_truncate_66 : decode cX4_truncate 66 = .ok (.ireturn, 1) := by decide +kernel
theorem dX4_truncate_67 : decode cX4_truncate 67 = .ok (.aload_n 0, 1) := by decide +kernel
theorem dX4_truncate_68 : decode cX4_truncate 68 = .ok (.getfield 9, 3) := by decide +kernel
theorem dX4_truncate_71 : decode cX4_truncate 71 = .ok (.bipush 64, 2) := by decide +kernel
theorem dX4_truncate_73 : decode cX4_truncate 73 = .ok (.iload_n 1, 1) := by decide +kernel
theorem dX4_truncate_74 : decode cX4_truncate 74 = .ok (.iadd, 1) := by decide +kernel
theorem dX4_truncate_75 : decode cX4_truncate 75 = .ok (.iaload, 1) := by decide +kernel
theorem dX4_truncate_76 : decode cX4_truncate 76 = .ok (.istore_n 3, 1) := by decide +kernel
theorem dX4_truncate_77 : decode cX4_truncate 77 = .ok (.aload_n 0, 1) := by decide +kernel
theorem dX4_truncate_78 : decode cX4_truncate 78 = .ok (.invokevirtual 138, 3) := by decide +kernel
theorem dX4_truncate_81 : decode cX4_truncate 81 = .ok (.aload_n 0, 1) := by decide +kernel
theorem dX4_truncate_82 : decode cX4_truncate 82 = .ok (.getfield 16, 3) := by decide +kernel
theorem dX4_truncate_85 : decode cX4_truncate 85 = .ok (.bipush 64, 2) := by decide +kernel
theorem dX4_truncate_87 : decode cX4_truncate 87 = .ok (.iload_n 1, 1) := by decide +kernel
theorem dX4_truncate_88 : decode cX4_truncate 88 = .ok (.iadd, 1) := by decide +kernel
theorem dX4_truncate_89 : decode cX4_truncate 89 = .ok (.iload_n 2, 1) := by decide +kernel
theorem dX4_truncate_90 : decode cX4_truncate 90 = .ok (.iastore, 1) := by decide +kernel
theorem dX4_truncate_91 : decode cX4_truncate 91 = .ok (.iconst 0, 1) := by decide +kernel
theorem dX4_truncate_92 : decode cX4_truncate 92 = .ok (.istore 4, 2) := by decide +kernel
theorem dX4_truncate_94 : decode cX4_truncate 94 = .ok (.iload 4, 2) := by decide +kernel
theorem dX4_truncate_96 : decode cX4_truncate 96 = .ok (.bipush 20, 2) := by decide +kernel
theorem dX4_truncate_98 : decode cX4_truncate 98 = .ok (.if_icmp .ge 35, 3) := by decide +kernel
theorem dX4_truncate_101 : decode cX4_truncate 101 = .ok (.iload 4, 2) := by decide +kernel
theorem dX4_truncate_103 : decode cX4_truncate 103 = .ok (.bipush 16, 2) := by decide +kernel
theorem dX4_truncate_105 : decode cX4_truncate 105 = .ok (.imul, 1) := by decide +kernel
theorem dX4_truncate_106 : decode cX4_truncate 106 = .ok (.iload_n 2, 1) := by decide +kernel
theorem dX4_truncate_107 : decode cX4_truncate 107 = .ok (.if_icmp .lt 20, 3) := by decide +kernel
theorem dX4_truncate_110 : decode cX4_truncate 110 = .ok (.aload_n 0, 1) := by decide +kernel
theorem dX4_truncate_111 : decode cX4_truncate 111 = .ok (.getfield 16, 3) := by decide +kernel
theorem dX4_truncate_114 : decode cX4_truncate 114 = .ok (.sipush 192, 3) := by decide +kernel
theorem dX4_truncate_117 : decode cX4_truncate 117 = .ok (.iload_n 1, 1) := by decide +kernel
theorem dX4_truncate_118 : decode cX4_truncate 118 = .ok (.bipush 20, 2) := by decide +kernel
theorem dX4_truncate_120 : decode cX4_truncate 120 = .ok (.imul, 1) := by decide +kernel
theorem dX4_truncate_121 : decode cX4_truncate 121 = .ok (.iadd, 1) := by decide +kernel
theorem dX4_truncate_122 : decode cX4_truncate 122 = .ok (.iload 4, 2) := by decide +kernel
theorem dX4_truncate_124 : decode cX4_truncate 124 = .ok (.iadd, 1) := by decide +kernel
theorem dX4_truncate_125 : decode cX4_truncate 125 = .ok (.iconst 0, 1) := by decide +kernel
theorem dX4_truncate_126 : decode cX4_truncate 126 = .ok (.iastore, 1) := by decide +kernel
theorem dX4_truncate_127 : decode cX4_truncate 127 = .ok (.iinc 4 1, 3) := by decide +kernel
theorem dX4_truncate_130 : decode cX4_truncate 130 = .ok (.goto (-36), 3) := by decide +kernel
theorem dX4_truncate_133 : decode cX4_truncate 133 = .ok (.iload_n 2, 1) := by decide +kernel
theorem dX4_truncate_134 : decode cX4_truncate 134 = .ok (.bipush 16, 2) := by decide +kernel
theorem dX4_truncate_136 : decode cX4_truncate 136 = .ok (.irem, 1) := by decide +kernel
theorem dX4_truncate_137 : decode cX4_truncate 137 = .ok (.istore 4, 2) := by decide +kernel
theorem dX4_truncate_139 : decode cX4_truncate 139 = .ok (.iload_n 2, 1) := by decide +kernel
theorem dX4_truncate_140 : decode cX4_truncate 140 = .ok (.iload_n 3, 1) := by decide +kernel
theorem dX4_truncate_141 : decode cX4_truncate 141 = .ok (.if_icmp .ge 62, 3) := by decide +kernel
theorem dX4_truncate_144 : decode cX4_truncate 144 = .ok (.iload 4, 2) := by decide +kernel
theorem dX4_truncate_146 : decode cX4_truncate 146 = .ok (.ifCond .le 57, 3) := by decide +kernel
theorem dX4_truncate_149 : decode cX4_truncate 149 = .ok (.aload_n 0, 1) := by decide +kernel
theorem dX4_truncate_150 : decode cX4_truncate 150 = .ok (.getfield 16, 3) := by decide +kernel
theorem dX4_truncate_153 : decode cX4_truncate 153 = .ok (.sipush 192, 3) := by decide +kernel
theorem dX4_truncate_156 : decode cX4_truncate 156 = .ok (.iload_n 1, 1) := by decide +kernel
theorem dX4_truncate_157 : decode cX4_truncate 157 = .ok (.bipush 20, 2) := by decide +kernel
theorem dX4_truncate_159 : decode cX4_truncate 159 = .ok (.imul, 1) := by decide +kernel
theorem dX4_truncate_160 : decode cX4_truncate 160 = .ok (.iadd, 1) := by decide +kernel
theorem dX4_truncate_161 : decode cX4_truncate 161 = .ok (.iload_n 2, 1) := by decide +kernel
theorem dX4_truncate_162 : decode cX4_truncate 162 = .ok (.bipush 16, 2) := by decide +kernel
theorem dX4_truncate_164 : decode cX4_truncate 164 = .ok (.idiv, 1) := by decide +kernel
theorem dX4_truncate_165 : decode cX4_truncate 165 = .ok (.iadd, 1) := by decide +kernel
theorem dX4_truncate_166 : decode cX4_truncate 166 = .ok (.iaload, 1) := by decide +kernel
theorem dX4_truncate_167 : decode cX4_truncate 167 = .ok (.ifCond .le 36, 3) := by decide +kernel
theorem dX4_truncate_170 : decode cX4_truncate 170 = .ok (.iload 4, 2) := by decide +kernel
theorem dX4_truncate_172 : decode cX4_truncate 172 = .ok (.istore 5, 2) := by decide +kernel
theorem dX4_truncate_174 : decode cX4_truncate 174 = .ok (.iload 5, 2) := by decide +kernel
theorem dX4_truncate_176 : decode cX4_truncate 176 = .ok (.bipush 16, 2) := by decide +kernel
theorem dX4_truncate_178 : decode cX4_truncate 178 = .ok (.if_icmp .ge 25, 3) := by decide +kernel
theorem dX4_truncate_181 : decode cX4_truncate 181 = .ok (.aload_n 0, 1) := by decide +kernel
theorem dX4_truncate_182 : decode cX4_truncate 182 = .ok (.getfield 16, 3) := by decide +kernel
theorem dX4_truncate_185 : decode cX4_truncate 185 = .ok (.iload_n 1, 1) := by decide +kernel
theorem dX4_truncate_186 : decode cX4_truncate 186 = .ok (.iload_n 2, 1) := by decide +kernel
theorem dX4_truncate_187 : decode cX4_truncate 187 = .ok (.iload 4, 2) := by decide +kernel
theorem dX4_truncate_189 : decode cX4_truncate 189 = .ok (.isub, 1) := by decide +kernel
theorem dX4_truncate_190 : decode cX4_truncate 190 = .ok (.iload 5, 2) := by decide +kernel
theorem dX4_truncate_192 : decode cX4_truncate 192 = .ok (.iadd, 1) := by decide +kernel
theorem dX4_truncate_193 : decode cX4_truncate 193 = .ok (.iconst 0, 1) := by decide +kernel
theorem dX4_truncate_194 : decode cX4_truncate 194 = .ok (.invokestatic 197, 3) := by decide +kernel
theorem dX4_truncate_197 : decode cX4_truncate 197 = .ok (.iinc 5 1, 3) := by decide +kernel
theorem dX4_truncate_200 : decode cX4_truncate 200 = .ok (.goto (-26), 3) := by decide +kernel
theorem dX4_truncate_203 : decode cX4_truncate 203 = .ok (.aload_n 0, 1) := by decide +kernel
theorem dX4_truncate_204 : decode cX4_truncate 204 = .ok (.aload_n 0, 1) := by decide +kernel
theorem dX4_truncate_205 : decode cX4_truncate 205 = .ok (.invokevirtual 159, 3) := by decide +kernel
theorem dX4_truncate_208 : decode cX4_truncate 208 = .ok (.iload_n 3, 1) := by decide +kernel
theorem dX4_truncate_209 : decode cX4_truncate 209 = .ok (.invokevirtual 163, 3) := by decide +kernel
theorem dX4_truncate_212 : decode cX4_truncate 212 = .ok (.ireturn, 1) := by decide +kernel
theorem dX4_isRefusedAt_0 : decode cX4_isRefusedAt 0 = .ok (.aload_n 0, 1) := by decide +kernel
theorem dX4_isRefusedAt_1 : decode cX4_isRefusedAt 1 = .ok (.invokevirtual 129, 3) := by decide +kernel
theorem dX4_isRefusedAt_4 : decode cX4_isRefusedAt 4 = .ok (.ifCond .eq 5, 3) := by decide +kernel
theorem dX4_isRefusedAt_7 : decode cX4_isRefusedAt 7 = .ok (.iconst 1, 1) := by decide +kernel
theorem dX4_isRefusedAt_8 : decode cX4_isRefusedAt 8 = .ok (.ireturn, 1) := by decide +kernel
theorem dX4_isRefusedAt_9 : decode cX4_isRefusedAt 9 = .ok (.aload_n 0, 1) := by decide +kernel
theorem dX4_isRefusedAt_10 : decode cX4_isRefusedAt 10 = .ok (.iload_n 1, 1) := by decide +kernel
theorem dX4_isRefusedAt_11 : decode cX4_isRefusedAt 11 = .ok (.invokevirtual 132, 3) := by decide +kernel
theorem dX4_isRefusedAt_14 : decode cX4_isRefusedAt 14 = .ok (.ifCond .ne 9, 3) := by decide +kernel
theorem dX4_isRefusedAt_17 : decode cX4_isRefusedAt 17 = .ok (.aload_n 0, 1) := by decide +kernel
theorem dX4_isRefusedAt_18 : decode cX4_isRefusedAt 18 = .ok (.iconst 2, 1) := by decide +kernel
theorem dX4_isRefusedAt_19 : decode cX4_isRefusedAt 19 = .ok (.invokevirtual 45, 3) := by decide +kernel
theorem dX4_isRefusedAt_22 : decode cX4_isRefusedAt 22 = .ok (.ireturn, 1) := by decide +kernel
theorem dX4_isRefusedAt_23 : decode cX4_isRefusedAt 23 = .ok (.iload_n 2, 1) := by decide +kernel
theorem dX4_isRefusedAt_24 : decode cX4_isRefusedAt 24 = .ok (.iconst 0, 1) := by decide +kernel
theorem dX4_isRefusedAt_25 : decode cX4_isRefusedAt 25 = .ok (.iload_n 3, 1) := by decide +kernel
theorem dX4_isRefusedAt_26 : decode cX4_isRefusedAt 26 = .ok (.invokestatic 49, 3) := by decide +kernel
theorem dX4_isRefusedAt_29 : decode cX4_isRefusedAt 29 = .ok (.ifCond .ne 15, 3) := by decide +kernel
theorem dX4_isRefusedAt_32 : decode cX4_isRefusedAt 32 = .ok (.aload_n 0, 1) := by decide +kernel
theorem dX4_isRefusedAt_33 : decode cX4_isRefusedAt 33 = .ok (.iconst 3, 1) := by decide +kernel
theorem dX4_isRefusedAt_34 : decode cX4_isRefusedAt 34 = .ok (.invokevirtual 45, 3) := by decide +kernel
theorem dX4_isRefusedAt_37 : decode cX4_isRefusedAt 37 = .ok (.ifCond .eq 7, 3) := by decide +kernel
theorem dX4_isRefusedAt_40 : decode cX4_isRefusedAt 40 = .ok (.iconst 1, 1) := by decide +kernel
theorem dX4_isRefusedAt_41 : decode cX4_isRefusedAt 41 = .ok (.goto 4, 3) := by decide +kernel
theorem dX4_isRefusedAt_44 : decode cX4_isRefusedAt 44 = .ok (.iconst 0, 1) := by decide +kernel
theorem dX4_isRefusedAt_45 : decode cX4_isRefusedAt 45 = .ok (.ireturn, 1) := by decide +kernel
theorem dX4_punch_0 : decode cX4_punch 0 = .ok (.aload_n 0, 1) := by decide +kernel
theorem dX4_punch_1 : decode cX4_punch 1 = .ok (.iload_n 1, 1) := by decide +kernel
theorem dX4_punch_2 : decode cX4_punch 2 = .ok (.iload_n 2, 1) := by decide +kernel
theorem dX4_punch_3 : decode cX4_punch 3 = .ok (.bipush 19, 2) := by decide +kernel
theorem dX4_punch_5 : decode cX4_punch 5 = .ok (.invokevirtual 205, 3) := by decide +kernel
theorem dX4_punch_8 : decode cX4_punch 8 = .ok (.ifCond .eq 5, 3) := by decide +kernel
theorem dX4_punch_11 : decode cX4_punch 11 = .ok (.iconst 0, 1) := by decide +kernel
theorem dX4_punch_12 : decode cX4_punch 12 = .ok (.ireturn, 1) := by decide +kernel
theorem dX4_punch_13 : decode cX4_punch 13 = .ok (.aload_n 0, 1) := by decide +kernel
theorem dX4_punch_14 : decode cX4_punch 14 = .ok (.getfield 9, 3) := by decide +kernel
theorem dX4_punch_17 : decode cX4_punch 17 = .ok (.iload_n 1, 1) := by decide +kernel
theorem dX4_punch_18 : decode cX4_punch 18 = .ok (.iconst 1, 1) := by decide +kernel
theorem dX4_punch_19 : decode cX4_punch 19 = .ok (.invokestatic 61, 3) := by decide +kernel
theorem dX4_punch_22 : decode cX4_punch 22 = .ok (.ifCond .ne 6, 3) := by decide +kernel
theorem dX4_punch_25 : decode cX4_punch 25 = .ok (.bipush (-3), 2) := by decide +kernel
theorem dX4_punch_27 : decode cX4_punch 27 = .ok (.ireturn, 1) := by decide +kernel
theorem dX4_punch_28 : decode cX4_punch 28 = .ok (.aload_n 0, 1) := by decide +kernel
theorem dX4_punch_29 : decode cX4_punch 29 = .ok (.invokevirtual 138, 3) := by decide +kernel
theorem dX4_punch_32 : decode cX4_punch 32 = .ok (.sipush 192, 3) := by decide +kernel
theorem dX4_punch_35 : decode cX4_punch 35 = .ok (.iload_n 1, 1) := by decide +kernel
theorem dX4_punch_36 : decode cX4_punch 36 = .ok (.bipush 20, 2) := by decide +kernel
theorem dX4_punch_38 : decode cX4_punch 38 = .ok (.imul, 1) := by decide +kernel
theorem dX4_punch_39 : decode cX4_punch 39 = .ok (.iadd, 1) := by decide +kernel
theorem dX4_punch_40 : decode cX4_punch 40 = .ok (.iload_n 2, 1) := by decide +kernel
theorem dX4_punch_41 : decode cX4_punch 41 = .ok (.iadd, 1) := by decide +kernel
theorem dX4_punch_42 : decode cX4_punch 42 = .ok (.istore_n 3, 1) := by decide +kernel
theorem dX4_punch_43 : decode cX4_punch 43 = .ok (.aload_n 0, 1) := by decide +kernel
theorem dX4_punch_44 : decode cX4_punch 44 = .ok (.getfield 16, 3) := by decide +kernel
theorem dX4_punch_47 : decode cX4_punch 47 = .ok (.iload_n 3, 1) := by decide +kernel
theorem dX4_punch_48 : decode cX4_punch 48 = .ok (.iaload, 1) := by decide +kernel
theorem dX4_punch_49 : decode cX4_punch 49 = .ok (.ifCond .le 7, 3) := by decide +kernel
theorem dX4_punch_52 : decode cX4_punch 52 = .ok (.iconst 1, 1) := by decide +kernel
theorem dX4_punch_53 : decode cX4_punch 53 = .ok (.goto 4, 3) := by decide +kernel
theorem dX4_punch_56 : decode cX4_punch 56 = .ok (.iconst 0, 1) := by decide +kernel
theorem dX4_punch_57 : decode cX4_punch 57 = .ok (.istore 4, 2) := by decide +kernel
theorem dX4_punch_59 : decode cX4_punch 59 = .ok (.aload_n 0, 1) := by decide +kernel
theorem dX4_punch_60 : decode cX4_punch 60 = .ok (.getfield 16, 3) := by decide +kernel
theorem dX4_punch_63 : decode cX4_punch 63 = .ok (.iload_n 3, 1) := by decide +kernel
theorem dX4_punch_64 : decode cX4_punch 64 = .ok (.iconst 0, 1) := by decide +kernel
theorem dX4_punch_65 : decode cX4_punch 65 = .ok (.iastore, 1) := by decide +kernel
theorem dX4_punch_66 : decode cX4_punch 66 = .ok (.aload_n 0, 1) := by decide +kernel
theorem dX4_punch_67 : decode cX4_punch 67 = .ok (.iload 4, 2) := by decide +kernel
theorem dX4_punch_69 : decode cX4_punch 69 = .ok (.invokevirtual 113, 3) := by decide +kernel
theorem dX4_punch_72 : decode cX4_punch 72 = .ok (.ireturn, 1) := by decide +kernel
theorem dX4_share_0 : decode cX4_share 0 = .ok (.aload_n 0, 1) := by decide +kernel
theorem dX4_share_1 : decode cX4_share 1 = .ok (.invokevirtual 129, 3) := by decide +kernel
theorem dX4_share_4 : decode cX4_share 4 = .ok (.ifCond .eq 5, 3) := by decide +kernel
theorem dX4_share_7 : decode cX4_share 7 = .ok (.iconst 0, 1) := by decide +kernel
theorem dX4_share_8 : decode cX4_share 8 = .ok (.ireturn, 1) := by decide +kernel
theorem dX4_share_9 : decode cX4_share 9 = .ok (.aload_n 0, 1) := by decide +kernel
theorem dX4_share_10 : decode cX4_share 10 = .ok (.iload_n 1, 1) := by decide +kernel
theorem dX4_share_11 : decode cX4_share 11 = .ok (.invokevirtual 132, 3) := by decide +kernel
theorem dX4_share_14 : decode cX4_share 14 = .ok (.ifCond .eq 11, 3) := by decide +kernel
theorem dX4_share_17 : decode cX4_share 17 = .ok (.aload_n 0, 1) := by decide +kernel
theorem dX4_share_18 : decode cX4_share 18 = .ok (.iload_n 3, 1) := by decide +kernel
theorem dX4_share_19 : decode cX4_share 19 = .ok (.invokevirtual 132, 3) := by decide +kernel
theorem dX4_share_22 : decode cX4_share 22 = .ok (.ifCond .ne 12, 3) := by decide +kernel
theorem dX4_share_25 : decode cX4_share 25 = .ok (.aload_n 0, 1) := by decide +kernel
theorem dX4_share_26 : decode cX4_share 26 = .ok (.iconst 2, 1) := by decide +kernel
theorem dX4_share_27 : decode cX4_share 27 = .ok (.invokevirtual 45, 3) := by decide +kernel
theorem dX4_share_30 : decode cX4_share 30 = .ok (.pop, 1) := by decide +kernel
theorem dX4_share_31 : decode cX4_share 31 = .ok (.goto 30, 3) := by decide +kernel
theorem dX4_share_34 : decode cX4_share 34 = .ok (.iload_n 2, 1) := by decide +kernel
theorem dX4_share_35 : decode cX4_share 35 = .ok (.iconst 0, 1) := by decide +kernel
theorem dX4_share_36 : decode cX4_share 36 = .ok (.bipush 19, 2) := by decide +kernel
theorem dX4_share_38 : decode cX4_share 38 = .ok (.invokestatic 49, 3) := by decide +kernel
theorem dX4_share_41 : decode cX4_share 41 = .ok (.ifCond .eq 14, 3) := by decide +kernel
theorem dX4_share_44 : decode cX4_share 44 = .ok (.iload 4, 2) := by decide +kernel
theorem dX4_share_46 : decode cX4_share 46 = .ok (.iconst 0, 1) := by decide +kernel
theorem dX4_share_47 : decode cX4_share 47 = .ok (.bipush 19, 2) := by decide +kernel
theorem dX4_share_49 : decode cX4_share 49 = .ok (.invokestatic 49, 3) := by decide +kernel
theorem dX4_share_52 : decode cX4_share 52 = .ok (.ifCond .ne 9, 3) := by decide +kernel
theorem dX4_share_55 : decode cX4_share 55 = .ok (.aload_n 0, 1) := by decide +kernel
theorem dX4_share_56 : decode cX4_share 56 = .ok (.iconst 3, 1) := by decide +kernel
theorem dX4_share_57 : decode cX4_share 57 = .ok (.invokevirtual 45, 3) := by decide +kernel
theorem dX4_share_60 : decode cX4_share 60 = .ok (.pop, 1) := by decide +kernel
theorem dX4_share_61 : decode cX4_share 61 = .ok (.aload_n 0, 1) := by decide +kernel
theorem dX4_share_62 : decode cX4_share 62 = .ok (.getfield 38, 3) := by decide +kernel
theorem dX4_share_65 : decode cX4_share 65 = .ok (.ifCond .le 5, 3) := by decide +kernel
theorem dX4_share_68 : decode cX4_share 68 = .ok (.iconst 0, 1) := by decide +kernel
theorem dX4_share_69 : decode cX4_share 69 = .ok (.ireturn, 1) := by decide +kernel
theorem dX4_share_70 : decode cX4_share 70 = .ok (.aload_n 0, 1) := by decide +kernel
theorem dX4_share_71 : decode cX4_share 71 = .ok (.getfield 9, 3) := by decide +kernel
theorem dX4_share_74 : decode cX4_share 74 = .ok (.iload_n 1, 1) := by decide +kernel
theorem dX4_share_75 : decode cX4_share 75 = .ok (.iconst 1, 1) := by decide +kernel
theorem dX4_share_76 : decode cX4_share 76 = .ok (.invokestatic 61, 3) := by decide +kernel
theorem dX4_share_79 : decode cX4_share 79 = .ok (.ifCond .eq 15, 3) := by decide +kernel
theorem dX4_share_82 : decode cX4_share 82 = .ok (.aload_n 0, 1) := by decide +kernel
theorem dX4_share_83 : decode cX4_share 83 = .ok (.getfield 9, 3) := by decide +kernel
theorem dX4_share_86 : decode cX4_share 86 = .ok (.iload_n 3, 1) := by decide +kernel
theorem dX4_share_87 : decode cX4_share 87 = .ok (.iconst 1, 1) := by decide +kernel
theorem dX4_share_88 : decode cX4_share 88 = .ok (.invokestatic 61, 3) := by decide +kernel
theorem dX4_share_91 : decode cX4_share 91 = .ok (.ifCond .ne 6, 3) := by decide +kernel
theorem dX4_share_94 : decode cX4_share 94 = .ok (.bipush (-3), 2) := by decide +kernel
theorem dX4_share_96 : decode cX4_share 96 = .ok (.ireturn, 1) := by decide +kernel
theorem dX4_share_97 : decode cX4_share 97 = .ok (.aload_n 0, 1) := by decide +kernel
theorem dX4_share_98 : decode cX4_share 98 = .ok (.getfield 9, 3) := by decide +kernel
theorem dX4_share_101 : decode cX4_share 101 = .ok (.sipush 192, 3) := by decide +kernel
theorem dX4_share_104 : decode cX4_share 104 = .ok (.iload_n 3, 1) := by decide +kernel
theorem dX4_share_105 : decode cX4_share 105 = .ok (.bipush 20, 2) := by decide +kernel
theorem dX4_share_107 : decode cX4_share 107 = .ok (.imul, 1) := by decide +kernel
theorem dX4_share_108 : decode cX4_share 108 = .ok (.iadd, 1) := by decide +kernel
theorem dX4_share_109 : decode cX4_share 109 = .ok (.iload 4, 2) := by decide +kernel
theorem dX4_share_111 : decode cX4_share 111 = .ok (.iadd, 1) := by decide +kernel
theorem dX4_share_112 : decode cX4_share 112 = .ok (.iaload, 1) := by decide +kernel
theorem dX4_share_113 : decode cX4_share 113 = .ok (.istore 5, 2) := by decide +kernel
theorem dX4_share_115 : decode cX4_share 115 = .ok (.iload_n 1, 1) := by decide +kernel
theorem dX4_share_116 : decode cX4_share 116 = .ok (.iload_n 3, 1) := by decide +kernel
theorem dX4_share_117 : decode cX4_share 117 = .ok (.if_icmp .ne 12, 3) := by decide +kernel
theorem dX4_share_120 : decode cX4_share 120 = .ok (.iload_n 2, 1) := by decide +kernel
theorem dX4_share_121 : decode cX4_share 121 = .ok (.iload 4, 2) := by decide +kernel
theorem dX4_share_123 : decode cX4_share 123 = .ok (.if_icmp .eq 6, 3) := by decide +kernel
theorem dX4_share_126 : decode cX4_share 126 = .ok (.bipush (-6), 2) := by decide +kernel
theorem dX4_share_128 : decode cX4_share 128 = .ok (.ireturn, 1) := by decide +kernel
theorem dX4_share_129 : decode cX4_share 129 = .ok (.iconst 0, 1) := by decide +kernel
theorem dX4_share_130 : decode cX4_share 130 = .ok (.istore 6, 2) := by decide +kernel
theorem dX4_share_132 : decode cX4_share 132 = .ok (.iload 6, 2) := by decide +kernel
theorem dX4_share_134 : decode cX4_share 134 = .ok (.bipush 20, 2) := by decide +kernel
theorem dX4_share_136 : decode cX4_share 136 = .ok (.if_icmp .ge 44, 3) := by decide +kernel
theorem dX4_share_139 : decode cX4_share 139 = .ok (.iload 5, 2) := by decide +kernel
theorem dX4_share_141 : decode cX4_share 141 = .ok (.ifCond .le 33, 3) := by decide +kernel
theorem dX4_share_144 : decode cX4_share 144 = .ok (.iload 6, 2) := by decide +kernel
theorem dX4_share_146 : decode cX4_share 146 = .ok (.iload_n 2, 1) := by decide +kernel
theorem dX4_share_147 : decode cX4_share 147 = .ok (.if_icmp .eq 27, 3) := by decide +kernel
theorem dX4_share_150 : decode cX4_share 150 = .ok (.aload_n 0, 1) := by decide +kernel
theorem dX4_share_151 : decode cX4_share 151 = .ok (.getfield 9, 3) := by decide +kernel
theorem dX4_share_154 : decode cX4_share 154 = .ok (.sipush 192, 3) := by decide +kernel
theorem dX4_share_157 : decode cX4_share 157 = .ok (.iload_n 1, 1) := by decide +kernel
theorem dX4_share_158 : decode cX4_share 158 = .ok (.bipush 20, 2) := by decide +kernel
theorem dX4_share_160 : decode cX4_share 160 = .ok (.imul, 1) := by decide +kernel
theorem dX4_share_161 : decode cX4_share 161 = .ok (.iadd, 1) := by decide +kernel
theorem dX4_share_162 : decode cX4_share 162 = .ok (.iload 6, 2) := by decide +kernel
theorem dX4_share_164 : decode cX4_share 164 = .ok (.iadd, 1) := by decide +kernel
theorem dX4_share_165 : decode cX4_share 165 = .ok (.iaload, 1) := by decide +kernel
theorem dX4_share_166 : decode cX4_share 166 = .ok (.iload 5, 2) := by decide +kernel
theorem dX4_share_168 : decode cX4_share 168 = .ok (.if_icmp .ne 6, 3) := by decide +kernel
theorem dX4_share_171 : decode cX4_share 171 = .ok (.bipush (-6), 2) := by decide +kernel
theorem dX4_share_173 : decode cX4_share 173 = .ok (.ireturn, 1) := by decide +kernel
theorem dX4_share_174 : decode cX4_share 174 = .ok (.iinc 6 1, 3) := by decide +kernel
theorem dX4_share_177 : decode cX4_share 177 = .ok (.goto (-45), 3) := by decide +kernel
theorem dX4_share_180 : decode cX4_share 180 = .ok (.iload_n 2, 1) := by decide +kernel
theorem dX4_share_181 : decode cX4_share 181 = .ok (.bipush 16, 2) := by decide +kernel
theorem dX4_share_183 : decode cX4_share 183 = .ok (.imul, 1) := by decide +kernel
theorem dX4_share_184 : decode cX4_share 184 = .ok (.bipush 16, 2) := by decide +kernel
theorem dX4_share_186 : decode cX4_share 186 = .ok (.iadd, 1) := by decide +kernel
theorem dX4_share_187 : decode cX4_share 187 = .ok (.aload_n 0, 1) := by decide +kernel
theorem dX4_share_188 : decode cX4_share 188 = .ok (.getfield 9, 3) := by decide +kernel
theorem dX4_share_191 : decode cX4_share 191 = .ok (.bipush 64, 2) := by decide +kernel
theorem dX4_share_193 : decode cX4_share 193 = .ok (.iload_n 1, 1) := by decide +kernel
theorem dX4_share_194 : decode cX4_share 194 = .ok (.iadd, 1) := by decide +kernel
theorem dX4_share_195 : decode cX4_share 195 = .ok (.iaload, 1) := by decide +kernel
theorem dX4_share_196 : decode cX4_share 196 = .ok (.if_icmp .le 6, 3) := by decide +kernel
theorem dX4_share_199 : decode cX4_share 199 = .ok (.bipush (-5), 2) := by decide +kernel
theorem dX4_share_201 : decode cX4_share 201 = .ok (.ireturn, 1) := by decide +kernel
theorem dX4_share_202 : decode cX4_share 202 = .ok (.aload_n 0, 1) := by decide +kernel
theorem dX4_share_203 : decode cX4_share 203 = .ok (.invokevirtual 138, 3) := by decide +kernel
theorem dX4_share_206 : decode cX4_share 206 = .ok (.aload_n 0, 1) := by decide +kernel
theorem dX4_share_207 : decode cX4_share 207 = .ok (.getfield 16, 3) := by decide +kernel
theorem dX4_share_210 : decode cX4_share 210 = .ok (.sipush 192, 3) := by decide +kernel
theorem dX4_share_213 : decode cX4_share 213 = .ok (.iload_n 1, 1) := by decide +kernel
theorem dX4_share_214 : decode cX4_share 214 = .ok (.bipush 20, 2) := by decide +kernel
theorem dX4_share_216 : decode cX4_share 216 = .ok (.imul, 1) := by decide +kernel
theorem dX4_share_217 : decode cX4_share 217 = .ok (.iadd, 1) := by decide +kernel
theorem dX4_share_218 : decode cX4_share 218 = .ok (.iload_n 2, 1) := by decide +kernel
theorem dX4_share_219 : decode cX4_share 219 = .ok (.iadd, 1) := by decide +kernel
theorem dX4_share_220 : decode cX4_share 220 = .ok (.iload 5, 2) := by decide +kernel
theorem dX4_share_222 : decode cX4_share 222 = .ok (.iastore, 1) := by decide +kernel
theorem dX4_share_223 : decode cX4_share 223 = .ok (.aload_n 0, 1) := by decide +kernel
theorem dX4_share_224 : decode cX4_share 224 = .ok (.aload_n 0, 1) := by decide +kernel
theorem dX4_share_225 : decode cX4_share 225 = .ok (.invokevirtual 159, 3) := by decide +kernel
theorem dX4_share_228 : decode cX4_share 228 = .ok (.iload 5, 2) := by decide +kernel
theorem dX4_share_230 : decode cX4_share 230 = .ok (.ifCond .le 7, 3) := by decide +kernel
theorem dX4_share_233 : decode cX4_share 233 = .ok (.iconst 1, 1) := by decide +kernel
theorem dX4_share_234 : decode cX4_share 234 = .ok (.goto 4, 3) := by decide +kernel
theorem dX4_share_237 : decode cX4_share 237 = .ok (.iconst 0, 1) := by decide +kernel
theorem dX4_share_238 : decode cX4_share 238 = .ok (.invokevirtual 163, 3) := by decide +kernel
theorem dX4_share_241 : decode cX4_share 241 = .ok (.ireturn, 1) := by decide +kernel
theorem dX4_setOwner_0 : decode cX4_setOwner 0 = .ok (.aload_n 0, 1) := by decide +kernel
theorem dX4_setOwner_1 : decode cX4_setOwner 1 = .ok (.iload_n 1, 1) := by decide +kernel
theorem dX4_setOwner_2 : decode cX4_setOwner 2 = .ok (.iload_n 2, 1) := by decide +kernel
theorem dX4_setOwner_3 : decode cX4_setOwner 3 = .ok (.iconst 3, 1) := by decide +kernel
theorem dX4_setOwner_4 : decode cX4_setOwner 4 = .ok (.invokevirtual 205, 3) := by decide +kernel
theorem dX4_setOwner_7 : decode cX4_setOwner 7 = .ok (.ifCond .eq 5, 3) := by decide +kernel
theorem dX4_setOwner_10 : decode cX4_setOwner 10 = .ok (.iconst 0, 1) := by decide +kernel
theorem dX4_setOwner_11 : decode cX4_setOwner 11 = .ok (.ireturn, 1) := by decide +kernel
theorem dX4_setOwner_12 : decode cX4_setOwner 12 = .ok (.aload_n 0, 1) := by decide +kernel
theorem dX4_setOwner_13 : decode cX4_setOwner 13 = .ok (.getfield 9, 3) := by decide +kernel
theorem dX4_setOwner_16 : decode cX4_setOwner 16 = .ok (.bipush 32, 2) := by decide +kernel
theorem dX4_setOwner_18 : decode cX4_setOwner 18 = .ok (.iload_n 1, 1) := by decide +kernel
theorem dX4_setOwner_19 : decode cX4_setOwner 19 = .ok (.iadd, 1) := by decide +kernel
theorem dX4_setOwner_20 : decode cX4_setOwner 20 = .ok (.iaload, 1) := by decide +kernel
theorem dX4_setOwner_21 : decode cX4_setOwner 21 = .ok (.istore_n 3, 1) := by decide +kernel
theorem dX4_setOwner_22 : decode cX4_setOwner 22 = .ok (.aload_n 0, 1) := by decide +kernel
theorem dX4_setOwner_23 : decode cX4_setOwner 23 = .ok (.invokevirtual 138, 3) := by decide +kernel
theorem dX4_setOwner_26 : decode cX4_setOwner 26 = .ok (.aload_n 0, 1) := by decide +kernel
theorem dX4_setOwner_27 : decode cX4_setOwner 27 = .ok (.getfield 16, 3) := by decide +kernel
theorem dX4_setOwner_30 : decode cX4_setOwner 30 = .ok (.bipush 32, 2) := by decide +kernel
theorem dX4_setOwner_32 : decode cX4_setOwner 32 = .ok (.iload_n 1, 1) := by decide +kernel
theorem dX4_setOwner_33 : decode cX4_setOwner 33 = .ok (.iadd, 1) := by decide +kernel
theorem dX4_setOwner_34 : decode cX4_setOwner 34 = .ok (.iload_n 2, 1) := by decide +kernel
theorem dX4_setOwner_35 : decode cX4_setOwner 35 = .ok (.iastore, 1) := by decide +kernel
theorem dX4_setOwner_36 : decode cX4_setOwner 36 = .ok (.aload_n 0, 1) := by decide +kernel
theorem dX4_setOwner_37 : decode cX4_setOwner 37 = .ok (.aload_n 0, 1) := by decide +kernel
theorem dX4_setOwner_38 : decode cX4_setOwner 38 = .ok (.invokevirtual 159, 3) := by decide +kernel
theorem dX4_setOwner_41 : decode cX4_setOwner 41 = .ok (.iload_n 3, 1) := by decide +kernel
theorem dX4_setOwner_42 : decode cX4_setOwner 42 = .ok (.invokevirtual 163, 3) := by decide +kernel
theorem dX4_setOwner_45 : decode cX4_setOwner 45 = .ok (.ireturn, 1) := by decide +kernel
theorem dX4_isRefusedUser_0 : decode cX4_isRefusedUser 0 = .ok (.aload_n 0, 1) := by decide +kernel
theorem dX4_isRefusedUser_1 : decode cX4_isRefusedUser 1 = .ok (.invokevirtual 129, 3) := by decide +kernel
theorem dX4_isRefusedUser_4 : decode cX4_isRefusedUser 4 = .ok (.ifCond .ne 20, 3) := by decide +kernel
theorem dX4_isRefusedUser_7 : decode cX4_isRefusedUser 7 = .ok (.iload_n 1, 1) := by decide +kernel
theorem dX4_isRefusedUser_8 : decode cX4_isRefusedUser 8 = .ok (.iconst 0, 1) := by decide +kernel
theorem dX4_isRefusedUser_9 : decode cX4_isRefusedUser 9 = .ok (.iconst 3, 1) := by decide +kernel
theorem dX4_isRefusedUser_10 : decode cX4_isRefusedUser 10 = .ok (.invokestatic 49, 3) := by decide +kernel
theorem dX4_isRefusedUser_13 : decode cX4_isRefusedUser 13 = .ok (.ifCond .ne 15, 3) := by decide +kernel
theorem dX4_isRefusedUser_16 : decode cX4_isRefusedUser 16 = .ok (.aload_n 0, 1) := by decide +kernel
theorem dX4_isRefusedUser_17 : decode cX4_isRefusedUser 17 = .ok (.iconst 2, 1) := by decide +kernel
theorem dX4_isRefusedUser_18 : decode cX4_isRefusedUser 18 = .ok (.invokevirtual 45, 3) := by decide +kernel
theorem dX4_isRefusedUser_21 : decode cX4_isRefusedUser 21 = .ok (.ifCond .eq 7, 3) := by decide +kernel
theorem dX4_isRefusedUser_24 : decode cX4_isRefusedUser 24 = .ok (.iconst 1, 1) := by decide +kernel
theorem dX4_isRefusedUser_25 : decode cX4_isRefusedUser 25 = .ok (.goto 4, 3) := by decide +kernel
theorem dX4_isRefusedUser_28 : decode cX4_isRefusedUser 28 = .ok (.iconst 0, 1) := by decide +kernel
theorem dX4_isRefusedUser_29 : decode cX4_isRefusedUser 29 = .ok (.ireturn, 1) := by decide +kernel
theorem dX4_setQuota_0 : decode cX4_setQuota 0 = .ok (.aload_n 0, 1) := by decide +kernel
theorem dX4_setQuota_1 : decode cX4_setQuota 1 = .ok (.iload_n 1, 1) := by decide +kernel
theorem dX4_setQuota_2 : decode cX4_setQuota 2 = .ok (.invokevirtual 208, 3) := by decide +kernel
theorem dX4_setQuota_5 : decode cX4_setQuota 5 = .ok (.ifCond .eq 5, 3) := by decide +kernel
theorem dX4_setQuota_8 : decode cX4_setQuota 8 = .ok (.iconst 0, 1) := by decide +kernel
theorem dX4_setQuota_9 : decode cX4_setQuota 9 = .ok (.ireturn, 1) := by decide +kernel
theorem dX4_setQuota_10 : decode cX4_setQuota 10 = .ok (.iload_n 2, 1) := by decide +kernel
theorem dX4_setQuota_11 : decode cX4_setQuota 11 = .ok (.iconst 0, 1) := by decide +kernel
theorem dX4_setQuota_12 : decode cX4_setQuota 12 = .ok (.bipush 120, 2) := by decide +kernel
theorem dX4_setQuota_14 : decode cX4_setQuota 14 = .ok (.invokestatic 49, 3) := by decide +kernel
theorem dX4_setQuota_17 : decode cX4_setQuota 17 = .ok (.ifCond .ne 10, 3) := by decide +kernel
theorem dX4_setQuota_20 : decode cX4_setQuota 20 = .ok (.aload_n 0, 1) := by decide +kernel
theorem dX4_setQuota_21 : decode cX4_setQuota 21 = .ok (.iconst 2, 1) := by decide +kernel
theorem dX4_setQuota_22 : decode cX4_setQuota 22 = .ok (.putfield 38, 3) := by decide +kernel
theorem dX4_setQuota_25 : decode cX4_setQuota 25 = .ok (.iconst 0, 1) := by decide +kernel
theorem dX4_setQuota_26 : decode cX4_setQuota 26 = .ok (.ireturn, 1) := by decide +kernel
theorem dX4_setQuota_27 : decode cX4_setQuota 27 = .ok (.aload_n 0, 1) := by decide +kernel
theorem dX4_setQuota_28 : decode cX4_setQuota 28 = .ok (.getfield 9, 3) := by decide +kernel
theorem dX4_setQuota_31 : decode cX4_setQuota 31 = .ok (.sipush 1600, 3) := by decide +kernel
theorem dX4_setQuota_34 : decode cX4_setQuota 34 = .ok (.iload_n 1, 1) := by decide +kernel
theorem dX4_setQuota_35 : decode cX4_setQuota 35 = .ok (.iadd, 1) := by decide +kernel
theorem dX4_setQuota_36 : decode cX4_setQuota 36 = .ok (.iaload, 1) := by decide +kernel
theorem dX4_setQuota_37 : decode cX4_setQuota 37 = .ok (.istore_n 3, 1) := by decide +kernel
theorem dX4_setQuota_38 : decode cX4_setQuota 38 = .ok (.aload_n 0, 1) := by decide +kernel
theorem dX4_setQuota_39 : decode cX4_setQuota 39 = .ok (.invokevirtual 138, 3) := by decide +kernel
theorem dX4_setQuota_42 : decode cX4_setQuota 42 = .ok (.aload_n 0, 1) := by decide +kernel
theorem dX4_setQuota_43 : decode cX4_setQuota 43 = .ok (.getfield 16, 3) := by decide +kernel
theorem dX4_setQuota_46 : decode cX4_setQuota 46 = .ok (.sipush 1600, 3) := by decide +kernel
theorem dX4_setQuota_49 : decode cX4_setQuota 49 = .ok (.iload_n 1, 1) := by decide +kernel
theorem dX4_setQuota_50 : decode cX4_setQuota 50 = .ok (.iadd, 1) := by decide +kernel
theorem dX4_setQuota_51 : decode cX4_setQuota 51 = .ok (.iload_n 2, 1) := by decide +kernel
theorem dX4_setQuota_52 : decode cX4_setQuota 52 = .ok (.iastore, 1) := by decide +kernel
theorem dX4_setQuota_53 : decode cX4_setQuota 53 = .ok (.aload_n 0, 1) := by decide +kernel
theorem dX4_setQuota_54 : decode cX4_setQuota 54 = .ok (.iload_n 3, 1) := by decide +kernel
theorem dX4_setQuota_55 : decode cX4_setQuota 55 = .ok (.invokevirtual 113, 3) := by decide +kernel
theorem dX4_setQuota_58 : decode cX4_setQuota 58 = .ok (.ireturn, 1) := by decide +kernel
theorem dX4_isRefusedNode_0 : decode cX4_isRefusedNode 0 = .ok (.aload_n 0, 1) := by decide +kernel
theorem dX4_isRefusedNode_1 : decode cX4_isRefusedNode 1 = .ok (.invokevirtual 129, 3) := by decide +kernel
theorem dX4_isRefusedNode_4 : decode cX4_isRefusedNode 4 = .ok (.ifCond .ne 19, 3) := by decide +kernel
theorem dX4_isRefusedNode_7 : decode cX4_isRefusedNode 7 = .ok (.aload_n 0, 1) := by decide +kernel
theorem dX4_isRefusedNode_8 : decode cX4_isRefusedNode 8 = .ok (.iload_n 1, 1) := by decide +kernel
theorem dX4_isRefusedNode_9 : decode cX4_isRefusedNode 9 = .ok (.invokevirtual 132, 3) := by decide +kernel
theorem dX4_isRefusedNode_12 : decode cX4_isRefusedNode 12 = .ok (.ifCond .ne 15, 3) := by decide +kernel
theorem dX4_isRefusedNode_15 : decode cX4_isRefusedNode 15 = .ok (.aload_n 0, 1) := by decide +kernel
theorem dX4_isRefusedNode_16 : decode cX4_isRefusedNode 16 = .ok (.iconst 2, 1) := by decide +kernel
theorem dX4_isRefusedNode_17 : decode cX4_isRefusedNode 17 = .ok (.invokevirtual 45, 3) := by decide +kernel
theorem dX4_isRefusedNode_20 : decode cX4_isRefusedNode 20 = .ok (.ifCond .eq 7, 3) := by decide +kernel
theorem dX4_isRefusedNode_23 : decode cX4_isRefusedNode 23 = .ok (.iconst 1, 1) := by decide +kernel
theorem dX4_isRefusedNode_24 : decode cX4_isRefusedNode 24 = .ok (.goto 4, 3) := by decide +kernel
theorem dX4_isRefusedNode_27 : decode cX4_isRefusedNode 27 = .ok (.iconst 0, 1) := by decide +kernel
theorem dX4_isRefusedNode_28 : decode cX4_isRefusedNode 28 = .ok (.ireturn, 1) := by decide +kernel
theorem dX4_isRefusedHandle_0 : decode cX4_isRefusedHandle 0 = .ok (.aload_n 0, 1) := by decide +kernel
theorem dX4_isRefusedHandle_1 : decode cX4_isRefusedHandle 1 = .ok (.invokevirtual 129, 3) := by decide +kernel
theorem dX4_isRefusedHandle_4 : decode cX4_isRefusedHandle 4 = .ok (.ifCond .ne 19, 3) := by decide +kernel
theorem dX4_isRefusedHandle_7 : decode cX4_isRefusedHandle 7 = .ok (.aload_n 0, 1) := by decide +kernel
theorem dX4_isRefusedHandle_8 : decode cX4_isRefusedHandle 8 = .ok (.iload_n 1, 1) := by decide +kernel
theorem dX4_isRefusedHandle_9 : decode cX4_isRefusedHandle 9 = .ok (.invokevirtual 194, 3) := by decide +kernel
theorem dX4_isRefusedHandle_12 : decode cX4_isRefusedHandle 12 = .ok (.ifCond .ne 15, 3) := by decide +kernel
theorem dX4_isRefusedHandle_15 : decode cX4_isRefusedHandle 15 = .ok (.aload_n 0, 1) := by decide +kernel
theorem dX4_isRefusedHandle_16 : decode cX4_isRefusedHandle 16 = .ok (.iconst 2, 1) := by decide +kernel
theorem dX4_isRefusedHandle_17 : decode cX4_isRefusedHandle 17 = .ok (.invokevirtual 45, 3) := by decide +kernel
theorem dX4_isRefusedHandle_20 : decode cX4_isRefusedHandle 20 = .ok (.ifCond .eq 7, 3) := by decide +kernel
theorem dX4_isRefusedHandle_23 : decode cX4_isRefusedHandle 23 = .ok (.iconst 1, 1) := by decide +kernel
theorem dX4_isRefusedHandle_24 : decode cX4_isRefusedHandle 24 = .ok (.goto 4, 3) := by decide +kernel
theorem dX4_isRefusedHandle_27 : decode cX4_isRefusedHandle 27 = .ok (.iconst 0, 1) := by decide +kernel
theorem dX4_isRefusedHandle_28 : decode cX4_isRefusedHandle 28 = .ok (.ireturn, 1) := by decide +kernel
theorem dX4_open_0 : decode cX4_open 0 = .ok (.aload_n 0, 1) := by decide +kernel
theorem dX4_open_1 : decode cX4_open 1 = .ok (.iload_n 1, 1) := by decide +kernel
theorem dX4_open_2 : decode cX4_open 2 = .ok (.invokevirtual 211, 3) := by decide +kernel
theorem dX4_open_5 : decode cX4_open 5 = .ok (.ifCond .eq 5, 3) := by decide +kernel
theorem dX4_open_8 : decode cX4_open 8 = .ok (.iconst 0, 1) := by decide +kernel
theorem dX4_open_9 : decode cX4_open 9 = .ok (.ireturn, 1) := by decide +kernel
theorem dX4_open_10 : decode cX4_open 10 = .ok (.aload_n 0, 1) := by decide +kernel
theorem dX4_open_11 : decode cX4_open 11 = .ok (.getfield 9, 3) := by decide +kernel
theorem dX4_open_14 : decode cX4_open 14 = .ok (.iload_n 1, 1) := by decide +kernel
theorem dX4_open_15 : decode cX4_open 15 = .ok (.iconst 1, 1) := by decide +kernel
theorem dX4_open_16 : decode cX4_open 16 = .ok (.invokestatic 61, 3) := by decide +kernel
theorem dX4_open_19 : decode cX4_open 19 = .ok (.ifCond .ne 6, 3) := by decide +kernel
theorem dX4_open_22 : decode cX4_open 22 = .ok (.bipush (-3), 2) := by decide +kernel
theorem dX4_open_24 : decode cX4_open 24 = .ok (.ireturn, 1) := by decide +kernel
theorem dX4_open_25 : decode cX4_open 25 = .ok (.iconst 0, 1) := by decide +kernel
theorem dX4_open_26 : decode cX4_open 26 = .ok (.istore_n 2, 1) := by decide +kernel
theorem dX4_open_27 : decode cX4_open 27 = .ok (.iload_n 2, 1) := by decide +kernel
theorem dX4_open_28 : decode cX4_open 28 = .ok (.bipush 6, 2) := by decide +kernel
theorem dX4_open_30 : decode cX4_open 30 = .ok (.if_icmp .ge 30, 3) := by decide +kernel
theorem dX4_open_33 : decode cX4_open 33 = .ok (.aload_n 0, 1) := by decide +kernel
theorem dX4_open_34 : decode cX4_open 34 = .ok (.getfield 19, 3) := by decide +kernel
theorem dX4_open_37 : decode cX4_open 37 = .ok (.iload_n 2, 1) := by decide +kernel
theorem dX4_open_38 : decode cX4_open 38 = .ok (.iaload, 1) := by decide +kernel
theorem dX4_open_39 : decode cX4_open 39 = .ok (.ifCond .lt 6, 3) := by decide +kernel
theorem dX4_open_42 : decode cX4_open 42 = .ok (.goto 12, 3) := by decide +kernel
theorem dX4_open_45 : decode cX4_open 45 = .ok (.aload_n 0, 1) := by decide +kernel
theorem dX4_open_46 : decode cX4_open 46 = .ok (.getfield 19, 3) := by decide +kernel
theorem dX4_open_49 : decode cX4_open 49 = .ok (.iload_n 2, 1) := by decide +kernel
theorem dX4_open_50 : decode cX4_open 50 = .ok (.iload_n 1, 1) := by decide +kernel
theorem dX4_open_51 : decode cX4_open 51 = .ok (.iastore, 1) := by decide +kernel
theorem dX4_open_52 : decode cX4_open 52 = .ok (.iload_n 2, 1) := by decide +kernel
theorem dX4_open_53 : decode cX4_open 53 = .ok (.ireturn, 1) := by decide +kernel
theorem dX4_open_54 : decode cX4_open 54 = .ok (.iinc 2 1, 3) := by decide +kernel
theorem dX4_open_57 : decode cX4_open 57 = .ok (.goto (-30), 3) := by decide +kernel
theorem dX4_open_60 : decode cX4_open 60 = .ok (.bipush (-5), 2) := by decide +kernel
theorem dX4_open_62 : decode cX4_open 62 = .ok (.ireturn, 1) := by decide +kernel
theorem dX4_close_0 : decode cX4_close 0 = .ok (.aload_n 0, 1) := by decide +kernel
theorem dX4_close_1 : decode cX4_close 1 = .ok (.iload_n 1, 1) := by decide +kernel
theorem dX4_close_2 : decode cX4_close 2 = .ok (.invokevirtual 214, 3) := by decide +kernel
theorem dX4_close_5 : decode cX4_close 5 = .ok (.ifCond .eq 5, 3) := by decide +kernel
theorem dX4_close_8 : decode cX4_close 8 = .ok (.iconst 0, 1) := by decide +kernel
theorem dX4_close_9 : decode cX4_close 9 = .ok (.ireturn, 1) := by decide +kernel
theorem dX4_close_10 : decode cX4_close 10 = .ok (.aload_n 0, 1) := by decide +kernel
theorem dX4_close_11 : decode cX4_close 11 = .ok (.getfield 19, 3) := by decide +kernel
theorem dX4_close_14 : decode cX4_close 14 = .ok (.iload_n 1, 1) := by decide +kernel
theorem dX4_close_15 : decode cX4_close 15 = .ok (.iaload, 1) := by decide +kernel
theorem dX4_close_16 : decode cX4_close 16 = .ok (.istore_n 2, 1) := by decide +kernel
theorem dX4_close_17 : decode cX4_close 17 = .ok (.aload_n 0, 1) := by decide +kernel
theorem dX4_close_18 : decode cX4_close 18 = .ok (.iload_n 1, 1) := by decide +kernel
theorem dX4_close_19 : decode cX4_close 19 = .ok (.invokevirtual 116, 3) := by decide +kernel
theorem dX4_close_22 : decode cX4_close 22 = .ok (.aload_n 0, 1) := by decide +kernel
theorem dX4_close_23 : decode cX4_close 23 = .ok (.getfield 9, 3) := by decide +kernel
theorem dX4_close_26 : decode cX4_close 26 = .ok (.iload_n 2, 1) := by decide +kernel
theorem dX4_close_27 : decode cX4_close 27 = .ok (.invokestatic 89, 3) := by decide +kernel
theorem dX4_close_30 : decode cX4_close 30 = .ok (.ifCond .gt 11, 3) := by decide +kernel
theorem dX4_close_33 : decode cX4_close 33 = .ok (.aload_n 0, 1) := by decide +kernel
theorem dX4_close_34 : decode cX4_close 34 = .ok (.iload_n 2, 1) := by decide +kernel
theorem dX4_close_35 : decode cX4_close 35 = .ok (.invokevirtual 92, 3) := by decide +kernel
theorem dX4_close_38 : decode cX4_close 38 = .ok (.ifCond .le 5, 3) := by decide +kernel
theorem dX4_close_41 : decode cX4_close 41 = .ok (.iload_n 2, 1) := by decide +kernel
theorem dX4_close_42 : decode cX4_close 42 = .ok (.ireturn, 1) := by decide +kernel
theorem dX4_close_43 : decode cX4_close 43 = .ok (.aload_n 0, 1) := by decide +kernel
theorem dX4_close_44 : decode cX4_close 44 = .ok (.invokevirtual 138, 3) := by decide +kernel
theorem dX4_close_47 : decode cX4_close 47 = .ok (.aload_n 0, 1) := by decide +kernel
theorem dX4_close_48 : decode cX4_close 48 = .ok (.getfield 16, 3) := by decide +kernel
theorem dX4_close_51 : decode cX4_close 51 = .ok (.iload_n 2, 1) := by decide +kernel
theorem dX4_close_52 : decode cX4_close 52 = .ok (.invokestatic 95, 3) := by decide +kernel
theorem dX4_close_55 : decode cX4_close 55 = .ok (.aload_n 0, 1) := by decide +kernel
theorem dX4_close_56 : decode cX4_close 56 = .ok (.iload_n 2, 1) := by decide +kernel
theorem dX4_close_57 : decode cX4_close 57 = .ok (.invokevirtual 113, 3) := by decide +kernel
theorem dX4_close_60 : decode cX4_close 60 = .ok (.ireturn, 1) := by decide +kernel
theorem dX4_seek_0 : decode cX4_seek 0 = .ok (.aload_n 0, 1) := by decide +kernel
theorem dX4_seek_1 : decode cX4_seek 1 = .ok (.iload_n 1, 1) := by decide +kernel
theorem dX4_seek_2 : decode cX4_seek 2 = .ok (.invokevirtual 214, 3) := by decide +kernel
theorem dX4_seek_5 : decode cX4_seek 5 = .ok (.ifCond .eq 5, 3) := by decide +kernel
theorem dX4_seek_8 : decode cX4_seek 8 = .ok (.iconst 0, 1) := by decide +kernel
theorem dX4_seek_9 : decode cX4_seek 9 = .ok (.ireturn, 1) := by decide +kernel
theorem dX4_seek_10 : decode cX4_seek 10 = .ok (.iload_n 2, 1) := by decide +kernel
theorem dX4_seek_11 : decode cX4_seek 11 = .ok (.iconst 0, 1) := by decide +kernel
theorem dX4_seek_12 : decode cX4_seek 12 = .ok (.sipush 320, 3) := by decide +kernel
theorem dX4_seek_15 : decode cX4_seek 15 = .ok (.invokestatic 49, 3) := by decide +kernel
theorem dX4_seek_18 : decode cX4_seek 18 = .ok (.ifCond .ne 10, 3) := by decide +kernel
theorem dX4_seek_21 : decode cX4_seek 21 = .ok (.aload_n 0, 1) := by decide +kernel
theorem dX4_seek_22 : decode cX4_seek 22 = .ok (.iconst 3, 1) := by decide +kernel
theorem dX4_seek_23 : decode cX4_seek 23 = .ok (.putfield 38, 3) := by decide +kernel
theorem dX4_seek_26 : decode cX4_seek 26 = .ok (.iconst 0, 1) := by decide +kernel
theorem dX4_seek_27 : decode cX4_seek 27 = .ok (.ireturn, 1) := by decide +kernel
theorem dX4_seek_28 : decode cX4_seek 28 = .ok (.aload_n 0, 1) := by decide +kernel
theorem dX4_seek_29 : decode cX4_seek 29 = .ok (.getfield 22, 3) := by decide +kernel
theorem dX4_seek_32 : decode cX4_seek 32 = .ok (.iload_n 1, 1) := by decide +kernel
theorem dX4_seek_33 : decode cX4_seek 33 = .ok (.iaload, 1) := by decide +kernel
theorem dX4_seek_34 : decode cX4_seek 34 = .ok (.istore_n 3, 1) := by decide +kernel
theorem dX4_seek_35 : decode cX4_seek 35 = .ok (.aload_n 0, 1) := by decide +kernel
theorem dX4_seek_36 : decode cX4_seek 36 = .ok (.getfield 22, 3) := by decide +kernel
theorem dX4_seek_39 : decode cX4_seek 39 = .ok (.iload_n 1, 1) := by decide +kernel
theorem dX4_seek_40 : decode cX4_seek 40 = .ok (.iload_n 2, 1) := by decide +kernel
theorem dX4_seek_41 : decode cX4_seek 41 = .ok (.iastore, 1) := by decide +kernel
theorem dX4_seek_42 : decode cX4_seek 42 = .ok (.iload_n 3, 1) := by decide +kernel
theorem dX4_seek_43 : decode cX4_seek 43 = .ok (.ireturn, 1) := by decide +kernel
theorem dX4_read_0 : decode cX4_read 0 = .ok (.aload_n 0, 1) := by decide +kernel
theorem dX4_read_1 : decode cX4_read 1 = .ok (.iload_n 1, 1) := by decide +kernel
theorem dX4_read_2 : decode cX4_read 2 = .ok (.invokevirtual 214, 3) := by decide +kernel
theorem dX4_read_5 : decode cX4_read 5 = .ok (.ifCond .eq 5, 3) := by decide +kernel
theorem dX4_read_8 : decode cX4_read 8 = .ok (.iconst 0, 1) := by decide +kernel
theorem dX4_read_9 : decode cX4_read 9 = .ok (.ireturn, 1) := by decide +kernel
theorem dX4_read_10 : decode cX4_read 10 = .ok (.iload_n 2, 1) := by decide +kernel
theorem dX4_read_11 : decode cX4_read 11 = .ok (.iconst 1, 1) := by decide +kernel
theorem dX4_read_12 : decode cX4_read 12 = .ok (.sipush 320, 3) := by decide +kernel
theorem dX4_read_15 : decode cX4_read 15 = .ok (.invokestatic 49, 3) := by decide +kernel
theorem dX4_read_18 : decode cX4_read 18 = .ok (.ifCond .ne 10, 3) := by decide +kernel
theorem dX4_read_21 : decode cX4_read 21 = .ok (.aload_n 0, 1) := by decide +kernel
theorem dX4_read_22 : decode cX4_read 22 = .ok (.iconst 3, 1) := by decide +kernel
theorem dX4_read_23 : decode cX4_read 23 = .ok (.putfield 38, 3) := by decide +kernel
theorem dX4_read_26 : decode cX4_read 26 = .ok (.iconst 0, 1) := by decide +kernel
theorem dX4_read_27 : decode cX4_read 27 = .ok (.ireturn, 1) := by decide +kernel
theorem dX4_read_28 : decode cX4_read 28 = .ok (.iconst 0, 1) := by decide +kernel
theorem dX4_read_29 : decode cX4_read 29 = .ok (.istore_n 3, 1) := by decide +kernel
theorem dX4_read_30 : decode cX4_read 30 = .ok (.iconst 0, 1) := by decide +kernel
theorem dX4_read_31 : decode cX4_read 31 = .ok (.istore 4, 2) := by decide +kernel
theorem dX4_read_33 : decode cX4_read 33 = .ok (.iload 4, 2) := by decide +kernel
theorem dX4_read_35 : decode cX4_read 35 = .ok (.iload_n 2, 1) := by decide +kernel
theorem dX4_read_36 : decode cX4_read 36 = .ok (.if_icmp .ge 72, 3) := by decide +kernel
theorem dX4_read_39 : decode cX4_read 39 = .ok (.aload_n 0, 1) := by decide +kernel
theorem dX4_read_40 : decode cX4_read 40 = .ok (.getfield 22, 3) := by decide +kernel
theorem dX4_read_43 : decode cX4_read 43 = .ok (.iload_n 1, 1) := by decide +kernel
theorem dX4_read_44 : decode cX4_read 44 = .ok (.iaload, 1) := by decide +kernel
theorem dX4_read_45 : decode cX4_read 45 = .ok (.aload_n 0, 1) := by decide +kernel
theorem dX4_read_46 : decode cX4_read 46 = .ok (.getfield 9, 3) := by decide +kernel
theorem dX4_read_49 : decode cX4_read 49 = .ok (.bipush 64, 2) := by decide +kernel
theorem dX4_read_51 : decode cX4_read 51 = .ok (.aload_n 0, 1) := by decide +kernel
theorem dX4_read_52 : decode cX4_read 52 = .ok (.getfield 19, 3) := by decide +kernel
theorem dX4_read_55 : decode cX4_read 55 = .ok (.iload_n 1, 1) := by decide +kernel
theorem dX4_read_56 : decode cX4_read 56 = .ok (.iaload, 1) := by decide +kernel
theorem dX4_read_57 : decode cX4_read 57 = .ok (.iadd, 1) := by decide +kernel
theorem dX4_read_58 : decode cX4_read 58 = .ok (.iaload, 1) := by decide +kernel
theorem dX4_read_59 : decode cX4_read 59 = .ok (.if_icmp .ge 49, 3) := by decide +kernel
theorem dX4_read_62 : decode cX4_read 62 = .ok (.bipush 31, 2) := by decide +kernel
theorem dX4_read_64 : decode cX4_read 64 = .ok (.iload_n 3, 1) := by decide +kernel
theorem dX4_read_65 : decode cX4_read 65 = .ok (.imul, 1) := by decide +kernel
theorem dX4_read_66 : decode cX4_read 66 = .ok (.aload_n 0, 1) := by decide +kernel
theorem dX4_read_67 : decode cX4_read 67 = .ok (.getfield 9, 3) := by decide +kernel
theorem dX4_read_70 : decode cX4_read 70 = .ok (.aload_n 0, 1) := by decide +kernel
theorem dX4_read_71 : decode cX4_read 71 = .ok (.getfield 19, 3) := by decide +kernel
theorem dX4_read_74 : decode cX4_read 74 = .ok (.iload_n 1, 1) := by decide +kernel
theorem dX4_read_75 : decode cX4_read 75 = .ok (.iaload, 1) := by decide +kernel
theorem dX4_read_76 : decode cX4_read 76 = .ok (.aload_n 0, 1) := by decide +kernel
theorem dX4_read_77 : decode cX4_read 77 = .ok (.getfield 22, 3) := by decide +kernel
theorem dX4_read_80 : decode cX4_read 80 = .ok (.iload_n 1, 1) := by decide +kernel
theorem dX4_read_81 : decode cX4_read 81 = .ok (.iaload, 1) := by decide +kernel
theorem dX4_read_82 : decode cX4_read 82 = .ok (.invokestatic 217, 3) := by decide +kernel
theorem dX4_read_85 : decode cX4_read 85 = .ok (.iadd, 1) := by decide +kernel
theorem dX4_read_86 : decode cX4_read 86 = .ok (.iconst 1, 1) := by decide +kernel
theorem dX4_read_87 : decode cX4_read 87 = .ok (.iadd, 1) := by decide +kernel
theorem dX4_read_88 : decode cX4_read 88 = .ok (.ldc 220, 2) := by decide +kernel
theorem dX4_read_90 : decode cX4_read 90 = .ok (.irem, 1) := by decide +kernel
theorem dX4_read_91 : decode cX4_read 91 = .ok (.istore_n 3, 1) := by decide +kernel
theorem dX4_read_92 : decode cX4_read 92 = .ok (.aload_n 0, 1) := by decide +kernel
theorem dX4_read_93 : decode cX4_read 93 = .ok (.getfield 22, 3) := by decide +kernel
theorem dX4_read_96 : decode cX4_read 96 = .ok (.iload_n 1, 1) := by decide +kernel
theorem dX4_read_97 : decode cX4_read 97 = .ok (.dup2, 1) := by decide +kernel
theorem dX4_read_98 : decode cX4_read 98 = .ok (.iaload, 1) := by decide +kernel
theorem dX4_read_99 : decode cX4_read 99 = .ok (.iconst 1, 1) := by decide +kernel
theorem dX4_read_100 : decode cX4_read 100 = .ok (.iadd, 1) := by decide +kernel
theorem dX4_read_101 : decode cX4_read 101 = .ok (.iastore, 1) := by decide +kernel
theorem dX4_read_102 : decode cX4_read 102 = .ok (.iinc 4 1, 3) := by decide +kernel
theorem dX4_read_105 : decode cX4_read 105 = .ok (.goto (-72), 3) := by decide +kernel
theorem dX4_read_108 : decode cX4_read 108 = .ok (.iload_n 3, 1) := by decide +kernel
theorem dX4_read_109 : decode cX4_read 109 = .ok (.ireturn, 1) := by decide +kernel
theorem dX4_isRefusedRow_0 : decode cX4_isRefusedRow 0 = .ok (.aload_n 0, 1) := by decide +kernel
theorem dX4_isRefusedRow_1 : decode cX4_isRefusedRow 1 = .ok (.iload_n 1, 1) := by decide +kernel
theorem dX4_isRefusedRow_2 : decode cX4_isRefusedRow 2 = .ok (.invokevirtual 214, 3) := by decide +kernel
theorem dX4_isRefusedRow_5 : decode cX4_isRefusedRow 5 = .ok (.ifCond .eq 5, 3) := by decide +kernel
theorem dX4_isRefusedRow_8 : decode cX4_isRefusedRow 8 = .ok (.iconst 1, 1) := by decide +kernel
theorem dX4_isRefusedRow_9 : decode cX4_isRefusedRow 9 = .ok (.ireturn, 1) := by decide +kernel
theorem dX4_isRefusedRow_10 : decode cX4_isRefusedRow 10 = .ok (.iload_n 2, 1) := by decide +kernel
theorem dX4_isRefusedRow_11 : decode cX4_isRefusedRow 11 = .ok (.iconst 0, 1) := by decide +kernel
theorem dX4_isRefusedRow_12 : decode cX4_isRefusedRow 12 = .ok (.sipush 319, 3) := by decide +kernel
theorem dX4_isRefusedRow_15 : decode cX4_isRefusedRow 15 = .ok (.invokestatic 49, 3) := by decide +kernel
theorem dX4_isRefusedRow_18 : decode cX4_isRefusedRow 18 = .ok (.ifCond .eq 16, 3) := by decide +kernel
theorem dX4_isRefusedRow_21 : decode cX4_isRefusedRow 21 = .ok (.iload_n 3, 1) := by decide +kernel
theorem dX4_isRefusedRow_22 : decode cX4_isRefusedRow 22 = .ok (.iconst 1, 1) := by decide +kernel
theorem dX4_isRefusedRow_23 : decode cX4_isRefusedRow 23 = .ok (.sipush 320, 3) := by decide +kernel
theorem dX4_isRefusedRow_26 : decode cX4_isRefusedRow 26 = .ok (.iload_n 2, 1) := by decide +kernel
theorem dX4_isRefusedRow_27 : decode cX4_isRefusedRow 27 = .ok (.isub, 1) := by decide +kernel
theorem dX4_isRefusedRow_28 : decode cX4_isRefusedRow 28 = .ok (.invokestatic 49, 3) := by decide +kernel
theorem dX4_isRefusedRow_31 : decode cX4_isRefusedRow 31 = .ok (.ifCond .ne 15, 3) := by decide +kernel
theorem dX4_isRefusedRow_34 : decode cX4_isRefusedRow 34 = .ok (.aload_n 0, 1) := by decide +kernel
theorem dX4_isRefusedRow_35 : decode cX4_isRefusedRow 35 = .ok (.iconst 3, 1) := by decide +kernel
theorem dX4_isRefusedRow_36 : decode cX4_isRefusedRow 36 = .ok (.invokevirtual 45, 3) := by decide +kernel
theorem dX4_isRefusedRow_39 : decode cX4_isRefusedRow 39 = .ok (.ifCond .eq 7, 3) := by decide +kernel
theorem dX4_isRefusedRow_42 : decode cX4_isRefusedRow 42 = .ok (.iconst 1, 1) := by decide +kernel
theorem dX4_isRefusedRow_43 : decode cX4_isRefusedRow 43 = .ok (.goto 4, 3) := by decide +kernel
theorem dX4_isRefusedRow_46 : decode cX4_isRefusedRow 46 = .ok (.iconst 0, 1) := by decide +kernel
theorem dX4_isRefusedRow_47 : decode cX4_isRefusedRow 47 = .ok (.ireturn, 1) := by decide +kernel
theorem dX4_hindering_0 : decode cX4_hindering 0 = .ok (.iconst 0, 1) := by decide +kernel
theorem dX4_hindering_1 : decode cX4_hindering 1 = .ok (.istore 5, 2) := by decide +kernel
theorem dX4_hindering_3 : decode cX4_hindering 3 = .ok (.iload 5, 2) := by decide +kernel
theorem dX4_hindering_5 : decode cX4_hindering 5 = .ok (.bipush 6, 2) := by decide +kernel
theorem dX4_hindering_7 : decode cX4_hindering 7 = .ok (.if_icmp .ge 81, 3) := by decide +kernel
theorem dX4_hindering_10 : decode cX4_hindering 10 = .ok (.iload 5, 2) := by decide +kernel
theorem dX4_hindering_12 : decode cX4_hindering 12 = .ok (.iload_n 1, 1) := by decide +kernel
theorem dX4_hindering_13 : decode cX4_hindering 13 = .ok (.if_icmp .eq 69, 3) := by decide +kernel
theorem dX4_hindering_16 : decode cX4_hindering 16 = .ok (.aload_n 0, 1) := by decide +kernel
theorem dX4_hindering_17 : decode cX4_hindering 17 = .ok (.getfield 19, 3) := by decide +kernel
theorem dX4_hindering_20 : decode cX4_hindering 20 = .ok (.iload 5, 2) := by decide +kernel
theorem dX4_hindering_22 : decode cX4_hindering 22 = .ok (.iaload, 1) := by decide +kernel
theorem dX4_hindering_23 : decode cX4_hindering 23 = .ok (.aload_n 0, 1) := by decide +kernel
theorem dX4_hindering_24 : decode cX4_hindering 24 = .ok (.getfield 19, 3) := by decide +kernel
theorem dX4_hindering_27 : decode cX4_hindering 27 = .ok (.iload_n 1, 1) := by decide +kernel
theorem dX4_hindering_28 : decode cX4_hindering 28 = .ok (.iaload, 1) := by decide +kernel
theorem dX4_hindering_29 : decode cX4_hindering 29 = .ok (.if_icmp .eq 6, 3) := by decide +kernel
theorem dX4_hindering_32 : decode cX4_hindering 32 = .ok (.goto 50, 3) := by decide +kernel
theorem dX4_hindering_35 : decode cX4_hindering 35 = .ok (.iload_n 2, 1) := by decide +kernel
theorem dX4_hindering_36 : decode cX4_hindering 36 = .ok (.istore 6, 2) := by decide +kernel
theorem dX4_hindering_38 : decode cX4_hindering 38 = .ok (.iload 6, 2) := by decide +kernel
theorem dX4_hindering_40 : decode cX4_hindering 40 = .ok (.iload_n 2, 1) := by decide +kernel
theorem dX4_hindering_41 : decode cX4_hindering 41 = .ok (.iload_n 3, 1) := by decide +kernel
theorem dX4_hindering_42 : decode cX4_hindering 42 = .ok (.iadd, 1) := by decide +kernel
theorem dX4_hindering_43 : decode cX4_hindering 43 = .ok (.if_icmp .ge 39, 3) := by decide +kernel
theorem dX4_hindering_46 : decode cX4_hindering 46 = .ok (.aload_n 0, 1) := by decide +kernel
theorem dX4_hindering_47 : decode cX4_hindering 47 = .ok (.getfield 25, 3) := by decide +kernel
theorem dX4_hindering_50 : decode cX4_hindering 50 = .ok (.iload 5, 2) := by decide +kernel
theorem dX4_hindering_52 : decode cX4_hindering 52 = .ok (.sipush 320, 3) := by decide +kernel
theorem dX4_hindering_55 : decode cX4_hindering 55 = .ok (.imul, 1) := by decide +kernel
theorem dX4_hindering_56 : decode cX4_hindering 56 = .ok (.iload 6, 2) := by decide +kernel
theorem dX4_hindering_58 : decode cX4_hindering 58 = .ok (.iadd, 1) := by decide +kernel
theorem dX4_hindering_59 : decode cX4_hindering 59 = .ok (.iaload, 1) := by decide +kernel
theorem dX4_hindering_60 : decode cX4_hindering 60 = .ok (.iload 4, 2) := by decide +kernel
theorem dX4_hindering_62 : decode cX4_hindering 62 = .ok (.ifCond .eq 7, 3) := by decide +kernel
theorem dX4_hindering_65 : decode cX4_hindering 65 = .ok (.iconst 0, 1) := by decide +kernel
theorem dX4_hindering_66 : decode cX4_hindering 66 = .ok (.goto 4, 3) := by decide +kernel
theorem dX4_hindering_69 : decode cX4_hindering 69 = .ok (.iconst 1, 1) := by decide +kernel
theorem dX4_hindering_70 : decode cX4_hindering 70 = .ok (.if_icmp .le 6, 3) := by decide +kernel
theorem dX4_hindering_73 : decode cX4_hindering 73 = .ok (.iload 5, 2) := by decide +kernel
theorem dX4_hindering_75 : decode cX4_hindering 75 = .ok (.ireturn, 1) := by decide +kernel
theorem dX4_hindering_76 : decode cX4_hindering 76 = .ok (.iinc 6 1, 3) := by decide +kernel
theorem dX4_hindering_79 : decode cX4_hindering 79 = .ok (.goto (-41), 3) := by decide +kernel
theorem dX4_hindering_82 : decode cX4_hindering 82 = .ok (.iinc 5 1, 3) := by decide +kernel
theorem dX4_hindering_85 : decode cX4_hindering 85 = .ok (.goto (-82), 3) := by decide +kernel
theorem dX4_hindering_88 : decode cX4_hindering 88 = .ok (.iconst (-1), 1) := by decide +kernel
theorem dX4_hindering_89 : decode cX4_hindering 89 = .ok (.ireturn, 1) := by decide +kernel
theorem dX4_lock_0 : decode cX4_lock 0 = .ok (.aload_n 0, 1) := by decide +kernel
theorem dX4_lock_1 : decode cX4_lock 1 = .ok (.iload_n 1, 1) := by decide +kernel
theorem dX4_lock_2 : decode cX4_lock 2 = .ok (.iload_n 2, 1) := by decide +kernel
theorem dX4_lock_3 : decode cX4_lock 3 = .ok (.iload_n 3, 1) := by decide +kernel
theorem dX4_lock_4 : decode cX4_lock 4 = .ok (.invokevirtual 221, 3) := by decide +kernel
theorem dX4_lock_7 : decode cX4_lock 7 = .ok (.ifCond .ne 15, 3) := by decide +kernel
theorem dX4_lock_10 : decode cX4_lock 10 = .ok (.aload_n 0, 1) := by decide +kernel
theorem dX4_lock_11 : decode cX4_lock 11 = .ok (.iload_n 1, 1) := by decide +kernel
theorem dX4_lock_12 : decode cX4_lock 12 = .ok (.iload_n 2, 1) := by decide +kernel
theorem dX4_lock_13 : decode cX4_lock 13 = .ok (.iload_n 3, 1) := by decide +kernel
theorem dX4_lock_14 : decode cX4_lock 14 = .ok (.iload 4, 2) := by decide +kernel
theorem dX4_lock_16 : decode cX4_lock 16 = .ok (.invokevirtual 224, 3) := by decide +kernel
theorem dX4_lock_19 : decode cX4_lock 19 = .ok (.ifCond .lt 5, 3) := by decide +kernel
theorem dX4_lock_22 : decode cX4_lock 22 = .ok (.iconst 0, 1) := by decide +kernel
theorem dX4_lock_23 : decode cX4_lock 23 = .ok (.ireturn, 1) := by decide +kernel
theorem dX4_lock_24 : decode cX4_lock 24 = .ok (.iload_n 2, 1) := by decide +kernel
theorem dX4_lock_25 : decode cX4_lock 25 = .ok (.istore 5, 2) := by decide +kernel
theorem dX4_lock_27 : decode cX4_lock 27 = .ok (.iload 5, 2) := by decide +kernel
theorem dX4_lock_29 : decode cX4_lock 29 = .ok (.iload_n 2, 1) := by decide +kernel
theorem dX4_lock_30 : decode cX4_lock 30 = .ok (.iload_n 3, 1) := by decide +kernel
theorem dX4_lock_31 : decode cX4_lock 31 = .ok (.iadd, 1) := by decide +kernel
theorem dX4_lock_32 : decode cX4_lock 32 = .ok (.if_icmp .ge 32, 3) := by decide +kernel
theorem dX4_lock_35 : decode cX4_lock 35 = .ok (.aload_n 0, 1) := by decide +kernel
theorem dX4_lock_36 : decode cX4_lock 36 = .ok (.getfield 25, 3) := by decide +kernel
theorem dX4_lock_39 : decode cX4_lock 39 = .ok (.iload_n 1, 1) := by decide +kernel
theorem dX4_lock_40 : decode cX4_lock 40 = .ok (.sipush 320, 3) := by decide +kernel
theorem dX4_lock_43 : decode cX4_lock 43 = .ok (.imul, 1) := by decide +kernel
theorem dX4_lock_44 : decode cX4_lock 44 = .ok (.iload 5, 2) := by decide +kernel
theorem dX4_lock_46 : decode cX4_lock 46 = .ok (.iadd, 1) := by decide +kernel
theorem dX4_lock_47 : decode cX4_lock 47 = .ok (.iload 4, 2) := by decide +kernel
theorem dX4_lock_49 : decode cX4_lock 49 = .ok (.ifCond .eq 7, 3) := by decide +kernel
theorem dX4_lock_52 : decode cX4_lock 52 = .ok (.iconst 2, 1) := by decide +kernel
theorem dX4_lock_53 : decode cX4_lock 53 = .ok (.goto 4, 3) := by decide +kernel
theorem dX4_lock_56 : decode cX4_lock 56 = .ok (.iconst 1, 1) := by decide +kernel
theorem dX4_lock_57 : decode cX4_lock 57 = .ok (.iastore, 1) := by decide +kernel
theorem dX4_lock_58 : decode cX4_lock 58 = .ok (.iinc 5 1, 3) := by decide +kernel
theorem dX4_lock_61 : decode cX4_lock 61 = .ok (.goto (-34), 3) := by decide +kernel
theorem dX4_lock_64 : decode cX4_lock 64 = .ok (.iconst 1, 1) := by decide +kernel
theorem dX4_lock_65 : decode cX4_lock 65 = .ok (.ireturn, 1) := by decide +kernel
theorem dX4_unlock_0 : decode cX4_unlock 0 = .ok (.aload_n 0, 1) := by decide +kernel
theorem dX4_unlock_1 : decode cX4_unlock 1 = .ok (.iload_n 1, 1) := by decide +kernel
theorem dX4_unlock_2 : decode cX4_unlock 2 = .ok (.iload_n 2, 1) := by decide +kernel
theorem dX4_unlock_3 : decode cX4_unlock 3 = .ok (.iload_n 3, 1) := by decide +kernel
theorem dX4_unlock_4 : decode cX4_unlock 4 = .ok (.invokevirtual 221, 3) := by decide +kernel
theorem dX4_unlock_7 : decode cX4_unlock 7 = .ok (.ifCond .eq 5, 3) := by decide +kernel
theorem dX4_unlock_10 : decode cX4_unlock 10 = .ok (.iconst 0, 1) := by decide +kernel
theorem dX4_unlock_11 : decode cX4_unlock 11 = .ok (.ireturn, 1) := by decide +kernel
theorem dX4_unlock_12 : decode cX4_unlock 12 = .ok (.iconst 0, 1) := by decide +kernel
theorem dX4_unlock_13 : decode cX4_unlock 13 = .ok (.istore 4, 2) := by decide +kernel
theorem dX4_unlock_15 : decode cX4_unlock 15 = .ok (.iload_n 2, 1) := by decide +kernel
theorem dX4_unlock_16 : decode cX4_unlock 16 = .ok (.istore 5, 2) := by decide +kernel
theorem dX4_unlock_18 : decode cX4_unlock 18 = .ok (.iload 5, 2) := by decide +kernel
theorem dX4_unlock_20 : decode cX4_unlock 20 = .ok (.iload_n 2, 1) := by decide +kernel
theorem dX4_unlock_21 : decode cX4_unlock 21 = .ok (.iload_n 3, 1) := by decide +kernel
theorem dX4_unlock_22 : decode cX4_unlock 22 = .ok (.iadd, 1) := by decide +kernel
theorem dX4_unlock_23 : decode cX4_unlock 23 = .ok (.if_icmp .ge 49, 3) := by decide +kernel
theorem dX4_unlock_26 : decode cX4_unlock 26 = .ok (.iload 4, 2) := by decide +kernel
theorem dX4_unlock_28 : decode cX4_unlock 28 = .ok (.aload_n 0, 1) := by decide +kernel
theorem dX4_unlock_29 : decode cX4_unlock 29 = .ok (.getfield 25, 3) := by decide +kernel
theorem dX4_unlock_32 : decode cX4_unlock 32 = .ok (.iload_n 1, 1) := by decide +kernel
theorem dX4_unlock_33 : decode cX4_unlock 33 = .ok (.sipush 320, 3) := by decide +kernel
theorem dX4_unlock_36 : decode cX4_unlock 36 = .ok (.imul, 1) := by decide +kernel
theorem dX4_unlock_37 : decode cX4_unlock 37 = .ok (.iload 5, 2) := by decide +kernel
theorem dX4_unlock_39 : decode cX4_unlock 39 = .ok (.iadd, 1) := by decide +kernel
theorem dX4_unlock_40 : decode cX4_unlock 40 = .ok (.iaload, 1) := by decide +kernel
theorem dX4_unlock_41 : decode cX4_unlock 41 = .ok (.ifCond .le 7, 3) := by decide +kernel
theorem dX4_unlock_44 : decode cX4_unlock 44 = .ok (.iconst 1, 1) := by decide +kernel
theorem dX4_unlock_45 : decode cX4_unlock 45 = .ok (.goto 4, 3) := by decide +kernel
theorem dX4_unlock_48 : decode cX4_unlock 48 = .ok (.iconst 0, 1) := by decide +kernel
theorem dX4_unlock_49 : decode cX4_unlock 49 = .ok (.iadd, 1) := by decide +kernel
theorem dX4_unlock_50 : decode cX4_unlock 50 = .ok (.istore 4, 2) := by decide +kernel
theorem dX4_unlock_52 : decode cX4_unlock 52 = .ok (.aload_n 0, 1) := by decide +kernel
theorem dX4_unlock_53 : decode cX4_unlock 53 = .ok (.getfield 25, 3) := by decide +kernel
theorem dX4_unlock_56 : decode cX4_unlock 56 = .ok (.iload_n 1, 1) := by decide +kernel
theorem dX4_unlock_57 : decode cX4_unlock 57 = .ok (.sipush 320, 3) := by decide +kernel
theorem dX4_unlock_60 : decode cX4_unlock 60 = .ok (.imul, 1) := by decide +kernel
theorem dX4_unlock_61 : decode cX4_unlock 61 = .ok (.iload 5, 2) := by decide +kernel
theorem dX4_unlock_63 : decode cX4_unlock 63 = .ok (.iadd, 1) := by decide +kernel
theorem dX4_unlock_64 : decode cX4_unlock 64 = .ok (.iconst 0, 1) := by decide +kernel
theorem dX4_unlock_65 : decode cX4_unlock 65 = .ok (.iastore, 1) := by decide +kernel
theorem dX4_unlock_66 : decode cX4_unlock 66 = .ok (.iinc 5 1, 3) := by decide +kernel
theorem dX4_unlock_69 : decode cX4_unlock 69 = .ok (.goto (-51), 3) := by decide +kernel
theorem dX4_unlock_72 : decode cX4_unlock 72 = .ok (.iload 4, 2) := by decide +kernel
theorem dX4_unlock_74 : decode cX4_unlock 74 = .ok (.ireturn, 1) := by decide +kernel
theorem dX4_whoHinders_0 : decode cX4_whoHinders 0 = .ok (.aload_n 0, 1) := by decide +kernel
theorem dX4_whoHinders_1 : decode cX4_whoHinders 1 = .ok (.iload_n 1, 1) := by decide +kernel
theorem dX4_whoHinders_2 : decode cX4_whoHinders 2 = .ok (.iload_n 2, 1) := by decide +kernel
theorem dX4_whoHinders_3 : decode cX4_whoHinders 3 = .ok (.iload_n 3, 1) := by decide +kernel
theorem dX4_whoHinders_4 : decode cX4_whoHinders 4 = .ok (.invokevirtual 221, 3) := by decide +kernel
theorem dX4_whoHinders_7 : decode cX4_whoHinders 7 = .ok (.ifCond .eq 7, 3) := by decide +kernel
theorem dX4_whoHinders_10 : decode cX4_whoHinders 10 = .ok (.iconst 0, 1) := by decide +kernel
theorem dX4_whoHinders_11 : decode cX4_whoHinders 11 = .ok (.goto 12, 3) := by decide +kernel
theorem dX4_whoHinders_14 : decode cX4_whoHinders 14 = .ok (.aload_n 0, 1) := by decide +kernel
theorem dX4_whoHinders_15 : decode cX4_whoHinders 15 = .ok (.iload_n 1, 1) := by decide +kernel
theorem dX4_whoHinders_16 : decode cX4_whoHinders 16 = .ok (.iload_n 2, 1) := by decide +kernel
theorem dX4_whoHinders_17 : decode cX4_whoHinders 17 = .ok (.iload_n 3, 1) := by decide +kernel
theorem dX4_whoHinders_18 : decode cX4_whoHinders 18 = .ok (.iload 4, 2) := by decide +kernel
theorem dX4_whoHinders_20 : decode cX4_whoHinders 20 = .ok (.invokevirtual 224, 3) := by decide +kernel
theorem dX4_whoHinders_23 : decode cX4_whoHinders 23 = .ok (.ireturn, 1) := by decide +kernel
theorem dX4_rows_0 : decode cX4_rows 0 = .ok (.iconst 0, 1) := by decide +kernel
theorem dX4_rows_1 : decode cX4_rows 1 = .ok (.istore_n 2, 1) := by decide +kernel
theorem dX4_rows_2 : decode cX4_rows 2 = .ok (.iconst 0, 1) := by decide +kernel
theorem dX4_rows_3 : decode cX4_rows 3 = .ok (.istore_n 3, 1) := by decide +kernel
theorem dX4_rows_4 : decode cX4_rows 4 = .ok (.iload_n 3, 1) := by decide +kernel
theorem dX4_rows_5 : decode cX4_rows 5 = .ok (.sipush 320, 3) := by decide +kernel
theorem dX4_rows_8 : decode cX4_rows 8 = .ok (.if_icmp .ge 59, 3) := by decide +kernel
theorem dX4_rows_11 : decode cX4_rows 11 = .ok (.aload_n 0, 1) := by decide +kernel
theorem dX4_rows_12 : decode cX4_rows 12 = .ok (.getfield 25, 3) := by decide +kernel
theorem dX4_rows_15 : decode cX4_rows 15 = .ok (.iload_n 1, 1) := by decide +kernel
theorem dX4_rows_16 : decode cX4_rows 16 = .ok (.sipush 320, 3) := by decide +kernel
theorem dX4_rows_19 : decode cX4_rows 19 = .ok (.imul, 1) := by decide +kernel
theorem dX4_rows_20 : decode cX4_rows 20 = .ok (.iload_n 3, 1) := by decide +kernel
theorem dX4_rows_21 : decode cX4_rows 21 = .ok (.iadd, 1) := by decide +kernel
theorem dX4_rows_22 : decode cX4_rows 22 = .ok (.iaload, 1) := by decide +kernel
theorem dX4_rows_23 : decode cX4_rows 23 = .ok (.istore 4, 2) := by decide +kernel
theorem dX4_rows_25 : decode cX4_rows 25 = .ok (.iload_n 2, 1) := by decide +kernel
theorem dX4_rows_26 : decode cX4_rows 26 = .ok (.iload 4, 2) := by decide +kernel
theorem dX4_rows_28 : decode cX4_rows 28 = .ok (.ifCond .le 30, 3) := by decide +kernel
theorem dX4_rows_31 : decode cX4_rows 31 = .ok (.iload_n 3, 1) := by decide +kernel
theorem dX4_rows_32 : decode cX4_rows 32 = .ok (.ifCond .eq 22, 3) := by decide +kernel
theorem dX4_rows_35 : decode cX4_rows 35 = .ok (.aload_n 0, 1) := by decide +kernel
theorem dX4_rows_36 : decode cX4_rows 36 = .ok (.getfield 25, 3) := by decide +kernel
theorem dX4_rows_39 : decode cX4_rows 39 = .ok (.iload_n 1, 1) := by decide +kernel
theorem dX4_rows_40 : decode cX4_rows 40 = .ok (.sipush 320, 3) := by decide +kernel
theorem dX4_rows_43 : decode cX4_rows 43 = .ok (.imul, 1) := by decide +kernel
theorem dX4_rows_44 : decode cX4_rows 44 = .ok (.iload_n 3, 1) := by decide +kernel
theorem dX4_rows_45 : decode cX4_rows 45 = .ok (.iadd, 1) := by decide +kernel
theorem dX4_rows_46 : decode cX4_rows 46 = .ok (.iconst 1, 1) := by decide +kernel
theorem dX4_rows_47 : decode cX4_rows 47 = .ok (.isub, 1) := by decide +kernel
theorem dX4_rows_48 : decode cX4_rows 48 = .ok (.iaload, 1) := by decide +kernel
theorem dX4_rows_49 : decode cX4_rows 49 = .ok (.iload 4, 2) := by decide +kernel
theorem dX4_rows_51 : decode cX4_rows 51 = .ok (.if_icmp .eq 7, 3) := by decide +kernel
theorem dX4_rows_54 : decode cX4_rows 54 = .ok (.iconst 1, 1) := by decide +kernel
theorem dX4_rows_55 : decode cX4_rows 55 = .ok (.goto 4, 3) := by decide +kernel
theorem dX4_rows_58 : decode cX4_rows 58 = .ok (.iconst 0, 1) := by decide +kernel
theorem dX4_rows_59 : decode cX4_rows 59 = .ok (.iadd, 1) := by decide +kernel
theorem dX4_rows_60 : decode cX4_rows 60 = .ok (.istore_n 2, 1) := by decide +kernel
theorem dX4_rows_61 : decode cX4_rows 61 = .ok (.iinc 3 1, 3) := by decide +kernel
theorem dX4_rows_64 : decode cX4_rows 64 = .ok (.goto (-60), 3) := by decide +kernel
theorem dX4_rows_67 : decode cX4_rows 67 = .ok (.iload_n 2, 1) := by decide +kernel
theorem dX4_rows_68 : decode cX4_rows 68 = .ok (.ireturn, 1) := by decide +kernel
theorem dX4_lockRows_0 : decode cX4_lockRows 0 = .ok (.aload_n 0, 1) := by decide +kernel
theorem dX4_lockRows_1 : decode cX4_lockRows 1 = .ok (.iload_n 1, 1) := by decide +kernel
theorem dX4_lockRows_2 : decode cX4_lockRows 2 = .ok (.invokevirtual 214, 3) := by decide +kernel
theorem dX4_lockRows_5 : decode cX4_lockRows 5 = .ok (.ifCond .eq 7, 3) := by decide +kernel
theorem dX4_lockRows_8 : decode cX4_lockRows 8 = .ok (.iconst 0, 1) := by decide +kernel
theorem dX4_lockRows_9 : decode cX4_lockRows 9 = .ok (.goto 8, 3) := by decide +kernel
theorem dX4_lockRows_12 : decode cX4_lockRows 12 = .ok (.aload_n 0, 1) := by decide +kernel
theorem dX4_lockRows_13 : decode cX4_lockRows 13 = .ok (.iload_n 1, 1) := by decide +kernel
theorem dX4_lockRows_14 : decode cX4_lockRows 14 = .ok (.invokevirtual 228, 3) := by decide +kernel
theorem dX4_lockRows_17 : decode cX4_lockRows 17 = .ok (.ireturn, 1) := by decide +kernel
theorem dX4_lockAt_0 : decode cX4_lockAt 0 = .ok (.aload_n 0, 1) := by decide +kernel
theorem dX4_lockAt_1 : decode cX4_lockAt 1 = .ok (.iload_n 1, 1) := by decide +kernel
theorem dX4_lockAt_2 : decode cX4_lockAt 2 = .ok (.iload_n 2, 1) := by decide +kernel
theorem dX4_lockAt_3 : decode cX4_lockAt 3 = .ok (.sipush 319, 3) := by decide +kernel
theorem dX4_lockAt_6 : decode cX4_lockAt 6 = .ok (.invokevirtual 205, 3) := by decide +kernel
theorem dX4_lockAt_9 : decode cX4_lockAt 9 = .ok (.ifCond .eq 5, 3) := by decide +kernel
theorem dX4_lockAt_12 : decode cX4_lockAt 12 = .ok (.iconst 0, 1) := by decide +kernel
theorem dX4_lockAt_13 : decode cX4_lockAt 13 = .ok (.ireturn, 1) := by decide +kernel
theorem dX4_lockAt_14 : decode cX4_lockAt 14 = .ok (.iconst 0, 1) := by decide +kernel
theorem dX4_lockAt_15 : decode cX4_lockAt 15 = .ok (.istore_n 3, 1) := by decide +kernel
theorem dX4_lockAt_16 : decode cX4_lockAt 16 = .ok (.iconst 0, 1) := by decide +kernel
theorem dX4_lockAt_17 : decode cX4_lockAt 17 = .ok (.istore 4, 2) := by decide +kernel
theorem dX4_lockAt_19 : decode cX4_lockAt 19 = .ok (.iload 4, 2) := by decide +kernel
theorem dX4_lockAt_21 : decode cX4_lockAt 21 = .ok (.bipush 6, 2) := by decide +kernel
theorem dX4_lockAt_23 : decode cX4_lockAt 23 = .ok (.if_icmp .ge 38, 3) := by decide +kernel
theorem dX4_lockAt_26 : decode cX4_lockAt 26 = .ok (.aload_n 0, 1) := by decide +kernel
theorem dX4_lockAt_27 : decode cX4_lockAt 27 = .ok (.getfield 19, 3) := by decide +kernel
theorem dX4_lockAt_30 : decode cX4_lockAt 30 = .ok (.iload 4, 2) := by decide +kernel
theorem dX4_lockAt_32 : decode cX4_lockAt 32 = .ok (.iaload, 1) := by decide +kernel
theorem dX4_lockAt_33 : decode cX4_lockAt 33 = .ok (.iload_n 1, 1) := by decide +kernel
theorem dX4_lockAt_34 : decode cX4_lockAt 34 = .ok (.if_icmp .ne 21, 3) := by decide +kernel
theorem dX4_lockAt_37 : decode cX4_lockAt 37 = .ok (.iload_n 3, 1) := by decide +kernel
theorem dX4_lockAt_38 : decode cX4_lockAt 38 = .ok (.aload_n 0, 1) := by decide +kernel
theorem dX4_lockAt_39 : decode cX4_lockAt 39 = .ok (.getfield 25, 3) := by decide +kernel
theorem dX4_lockAt_42 : decode cX4_lockAt 42 = .ok (.iload 4, 2) := by decide +kernel
theorem dX4_lockAt_44 : decode cX4_lockAt 44 = .ok (.sipush 320, 3) := by decide +kernel
theorem dX4_lockAt_47 : decode cX4_lockAt 47 = .ok (.imul, 1) := by decide +kernel
theorem dX4_lockAt_48 : decode cX4_lockAt 48 = .ok (.iload_n 2, 1) := by decide +kernel
theorem dX4_lockAt_49 : decode cX4_lockAt 49 = .ok (.iadd, 1) := by decide +kernel
theorem dX4_lockAt_50 : decode cX4_lockAt 50 = .ok (.iaload, 1) := by decide +kernel
theorem dX4_lockAt_51 : decode cX4_lockAt 51 = .ok (.invokestatic 200, 3) := by decide +kernel
theorem dX4_lockAt_54 : decode cX4_lockAt 54 = .ok (.istore_n 3, 1) := by decide +kernel
theorem dX4_lockAt_55 : decode cX4_lockAt 55 = .ok (.iinc 4 1, 3) := by decide +kernel
theorem dX4_lockAt_58 : decode cX4_lockAt 58 = .ok (.goto (-39), 3) := by decide +kernel
theorem dX4_lockAt_61 : decode cX4_lockAt 61 = .ok (.iload_n 3, 1) := by decide +kernel
theorem dX4_lockAt_62 : decode cX4_lockAt 62 = .ok (.ireturn, 1) := by decide +kernel
theorem dX4_nodeOf_0 : decode cX4_nodeOf 0 = .ok (.aload_n 0, 1) := by decide +kernel
theorem dX4_nodeOf_1 : decode cX4_nodeOf 1 = .ok (.iload_n 1, 1) := by decide +kernel
theorem dX4_nodeOf_2 : decode cX4_nodeOf 2 = .ok (.invokevirtual 214, 3) := by decide +kernel
theorem dX4_nodeOf_5 : decode cX4_nodeOf 5 = .ok (.ifCond .eq 7, 3) := by decide +kernel
theorem dX4_nodeOf_8 : decode cX4_nodeOf 8 = .ok (.iconst 0, 1) := by decide +kernel
theorem dX4_nodeOf_9 : decode cX4_nodeOf 9 = .ok (.goto 9, 3) := by decide +kernel
theorem dX4_nodeOf_12 : decode cX4_nodeOf 12 = .ok (.aload_n 0, 1) := by decide +kernel
theorem dX4_nodeOf_13 : decode cX4_nodeOf 13 = .ok (.getfield 19, 3) := by decide +kernel
theorem dX4_nodeOf_16 : decode cX4_nodeOf 16 = .ok (.iload_n 1, 1) := by decide +kernel
theorem dX4_nodeOf_17 : decode cX4_nodeOf 17 = .ok (.iaload, 1) := by decide +kernel
theorem dX4_nodeOf_18 : decode cX4_nodeOf 18 = .ok (.ireturn, 1) := by decide +kernel
theorem dX4_positionOf_0 : decode cX4_positionOf 0 = .ok (.aload_n 0, 1) := by decide +kernel
theorem dX4_positionOf_1 : decode cX4_positionOf 1 = .ok (.iload_n 1, 1) := by decide +kernel
theorem dX4_positionOf_2 : decode cX4_positionOf 2 = .ok (.invokevirtual 214, 3) := by decide +kernel
theorem dX4_positionOf_5 : decode cX4_positionOf 5 = .ok (.ifCond .eq 7, 3) := by decide +kernel
theorem dX4_positionOf_8 : decode cX4_positionOf 8 = .ok (.iconst 0, 1) := by decide +kernel
theorem dX4_positionOf_9 : decode cX4_positionOf 9 = .ok (.goto 9, 3) := by decide +kernel
theorem dX4_positionOf_12 : decode cX4_positionOf 12 = .ok (.aload_n 0, 1) := by decide +kernel
theorem dX4_positionOf_13 : decode cX4_positionOf 13 = .ok (.getfield 22, 3) := by decide +kernel
theorem dX4_positionOf_16 : decode cX4_positionOf 16 = .ok (.iload_n 1, 1) := by decide +kernel
theorem dX4_positionOf_17 : decode cX4_positionOf 17 = .ok (.iaload, 1) := by decide +kernel
theorem dX4_positionOf_18 : decode cX4_positionOf 18 = .ok (.ireturn, 1) := by decide +kernel
theorem dX4_opened_0 : decode cX4_opened 0 = .ok (.iconst 0, 1) := by decide +kernel
theorem dX4_opened_1 : decode cX4_opened 1 = .ok (.istore_n 1, 1) := by decide +kernel
theorem dX4_opened_2 : decode cX4_opened 2 = .ok (.iconst 0, 1) := by decide +kernel
theorem dX4_opened_3 : decode cX4_opened 3 = .ok (.istore_n 2, 1) := by decide +kernel
theorem dX4_opened_4 : decode cX4_opened 4 = .ok (.iload_n 2, 1) := by decide +kernel
theorem dX4_opened_5 : decode cX4_opened 5 = .ok (.bipush 6, 2) := by decide +kernel
theorem dX4_opened_7 : decode cX4_opened 7 = .ok (.if_icmp .ge 26, 3) := by decide +kernel
theorem dX4_opened_10 : decode cX4_opened 10 = .ok (.iload_n 1, 1) := by decide +kernel
theorem dX4_opened_11 : decode cX4_opened 11 = .ok (.aload_n 0, 1) := by decide +kernel
theorem dX4_opened_12 : decode cX4_opened 12 = .ok (.getfield 19, 3) := by decide +kernel
theorem dX4_opened_15 : decode cX4_opened 15 = .ok (.iload_n 2, 1) := by decide +kernel
theorem dX4_opened_16 : decode cX4_opened 16 = .ok (.iaload, 1) := by decide +kernel
theorem dX4_opened_17 : decode cX4_opened 17 = .ok (.ifCond .lt 7, 3) := by decide +kernel
theorem dX4_opened_20 : decode cX4_opened 20 = .ok (.iconst 1, 1) := by decide +kernel
theorem dX4_opened_21 : decode cX4_opened 21 = .ok (.goto 4, 3) := by decide +kernel
theorem dX4_opened_24 : decode cX4_opened 24 = .ok (.iconst 0, 1) := by decide +kernel
theorem dX4_opened_25 : decode cX4_opened 25 = .ok (.iadd, 1) := by decide +kernel
theorem dX4_opened_26 : decode cX4_opened 26 = .ok (.istore_n 1, 1) := by decide +kernel
theorem dX4_opened_27 : decode cX4_opened 27 = .ok (.iinc 2 1, 3) := by decide +kernel
theorem dX4_opened_30 : decode cX4_opened 30 = .ok (.goto (-26), 3) := by decide +kernel
theorem dX4_opened_33 : decode cX4_opened 33 = .ok (.iload_n 1, 1) := by decide +kernel
theorem dX4_opened_34 : decode cX4_opened 34 = .ok (.ireturn, 1) := by decide +kernel
theorem dX4_handles_0 : decode cX4_handles 0 = .ok (.aload_n 0, 1) := by decide +kernel
theorem dX4_handles_1 : decode cX4_handles 1 = .ok (.invokevirtual 129, 3) := by decide +kernel
theorem dX4_handles_4 : decode cX4_handles 4 = .ok (.ifCond .eq 7, 3) := by decide +kernel
theorem dX4_handles_7 : decode cX4_handles 7 = .ok (.iconst 0, 1) := by decide +kernel
theorem dX4_handles_8 : decode cX4_handles 8 = .ok (.goto 7, 3) := by decide +kernel
theorem dX4_handles_11 : decode cX4_handles 11 = .ok (.aload_n 0, 1) := by decide +kernel
theorem dX4_handles_12 : decode cX4_handles 12 = .ok (.invokevirtual 231, 3) := by decide +kernel
theorem dX4_handles_15 : decode cX4_handles 15 = .ok (.ireturn, 1) := by decide +kernel
theorem dX4_sync_0 : decode cX4_sync 0 = .ok (.aload_n 0, 1) := by decide +kernel
theorem dX4_sync_1 : decode cX4_sync 1 = .ok (.invokevirtual 129, 3) := by decide +kernel
theorem dX4_sync_4 : decode cX4_sync 4 = .ok (.ifCond .ne 21, 3) := by decide +kernel
theorem dX4_sync_7 : decode cX4_sync 7 = .ok (.aload_n 0, 1) := by decide +kernel
theorem dX4_sync_8 : decode cX4_sync 8 = .ok (.getfield 106, 3) := by decide +kernel
theorem dX4_sync_11 : decode cX4_sync 11 = .ok (.ifCond .eq 10, 3) := by decide +kernel
theorem dX4_sync_14 : decode cX4_sync 14 = .ok (.aload_n 0, 1) := by decide +kernel
theorem dX4_sync_15 : decode cX4_sync 15 = .ok (.invokevirtual 109, 3) := by decide +kernel
theorem dX4_sync_18 : decode cX4_sync 18 = .ok (.ifCond .eq 7, 3) := by decide +kernel
theorem dX4_sync_21 : decode cX4_sync 21 = .ok (.iconst 1, 1) := by decide +kernel
theorem dX4_sync_22 : decode cX4_sync 22 = .ok (.goto 4, 3) := by decide +kernel
theorem dX4_sync_25 : decode cX4_sync 25 = .ok (.iconst 0, 1) := by decide +kernel
theorem dX4_sync_26 : decode cX4_sync 26 = .ok (.ireturn, 1) := by decide +kernel
theorem dX4_flush_0 : decode cX4_flush 0 = .ok (.aload_n 0, 1) := by decide +kernel
theorem dX4_flush_1 : decode cX4_flush 1 = .ok (.invokevirtual 129, 3) := by decide +kernel
theorem dX4_flush_4 : decode cX4_flush 4 = .ok (.ifCond .ne 17, 3) := by decide +kernel
theorem dX4_flush_7 : decode cX4_flush 7 = .ok (.aload_n 0, 1) := by decide +kernel
theorem dX4_flush_8 : decode cX4_flush 8 = .ok (.getfield 106, 3) := by decide +kernel
theorem dX4_flush_11 : decode cX4_flush 11 = .ok (.ifCond .le 12, 3) := by decide +kernel
theorem dX4_flush_14 : decode cX4_flush 14 = .ok (.aload_n 0, 1) := by decide +kernel
theorem dX4_flush_15 : decode cX4_flush 15 = .ok (.invokevirtual 109, 3) := by decide +kernel
theorem dX4_flush_18 : decode cX4_flush 18 = .ok (.ifCond .ne 5, 3) := by decide +kernel
theorem dX4_flush_21 : decode cX4_flush 21 = .ok (.iconst 0, 1) := by decide +kernel
theorem dX4_flush_22 : decode cX4_flush 22 = .ok (.ireturn, 1) := by decide +kernel
theorem dX4_flush_23 : decode cX4_flush 23 = .ok (.aload_n 0, 1) := by decide +kernel
theorem dX4_flush_24 : decode cX4_flush 24 = .ok (.iconst 2, 1) := by decide +kernel
theorem dX4_flush_25 : decode cX4_flush 25 = .ok (.invokevirtual 120, 3) := by decide +kernel
theorem dX4_flush_28 : decode cX4_flush 28 = .ok (.ifCond .ne 5, 3) := by decide +kernel
theorem dX4_flush_31 : decode cX4_flush 31 = .ok (.iconst 1, 1) := by decide +kernel
theorem dX4_flush_32 : decode cX4_flush 32 = .ok (.ireturn, 1) := by decide +kernel
theorem dX4_flush_33 : decode cX4_flush 33 = .ok (.aload_n 0, 1) := by decide +kernel
theorem dX4_flush_34 : decode cX4_flush 34 = .ok (.invokevirtual 123, 3) := by decide +kernel
theorem dX4_flush_37 : decode cX4_flush 37 = .ok (.iconst 0, 1) := by decide +kernel
theorem dX4_flush_38 : decode cX4_flush 38 = .ok (.ireturn, 1) := by decide +kernel
theorem dX4_writeBack_0 : decode cX4_writeBack 0 = .ok (.aload_n 0, 1) := by decide +kernel
theorem dX4_writeBack_1 : decode cX4_writeBack 1 = .ok (.invokevirtual 129, 3) := by decide +kernel
theorem dX4_writeBack_4 : decode cX4_writeBack 4 = .ok (.ifCond .ne 18, 3) := by decide +kernel
theorem dX4_writeBack_7 : decode cX4_writeBack 7 = .ok (.iload_n 2, 1) := by decide +kernel
theorem dX4_writeBack_8 : decode cX4_writeBack 8 = .ok (.iconst 0, 1) := by decide +kernel
theorem dX4_writeBack_9 : decode cX4_writeBack 9 = .ok (.bipush 50, 2) := by decide +kernel
theorem dX4_writeBack_11 : decode cX4_writeBack 11 = .ok (.invokestatic 49, 3) := by decide +kernel
theorem dX4_writeBack_14 : decode cX4_writeBack 14 = .ok (.ifCond .ne 8, 3) := by decide +kernel
theorem dX4_writeBack_17 : decode cX4_writeBack 17 = .ok (.aload_n 0, 1) := by decide +kernel
theorem dX4_writeBack_18 : decode cX4_writeBack 18 = .ok (.iconst 2, 1) := by decide +kernel
theorem dX4_writeBack_19 : decode cX4_writeBack 19 = .ok (.putfield 38, 3) := by decide +kernel
theorem dX4_writeBack_22 : decode cX4_writeBack 22 = .ok (.return_, 1) := by decide +kernel
theorem dX4_cut_0 : decode cX4_cut 0 = .ok (.aload_n 0, 1) := by decide +kernel
theorem dX4_cut_1 : decode cX4_cut 1 = .ok (.invokevirtual 129, 3) := by decide +kernel
theorem dX4_cut_4 : decode cX4_cut 4 = .ok (.ifCond .ne 7, 3) := by decide +kernel
theorem dX4_cut_7 : decode cX4_cut 7 = .ok (.aload_n 0, 1) := by decide +kernel
theorem dX4_cut_8 : decode cX4_cut 8 = .ok (.invokevirtual 123, 3) := by decide +kernel
theorem dX4_cut_11 : decode cX4_cut 11 = .ok (.return_, 1) := by decide +kernel
theorem dX4_fail_0 : decode cX4_fail 0 = .ok (.aload_n 0, 1) := by decide +kernel
theorem dX4_fail_1 : decode cX4_fail 1 = .ok (.iload_n 1, 1) := by decide +kernel
theorem dX4_fail_2 : decode cX4_fail 2 = .ok (.iconst 0, 1) := by decide +kernel
theorem dX4_fail_3 : decode cX4_fail 3 = .ok (.iconst 3, 1) := by decide +kernel
theorem dX4_fail_4 : decode cX4_fail 4 = .ok (.invokestatic 49, 3) := by decide +kernel
theorem dX4_fail_7 : decode cX4_fail 7 = .ok (.ifCond .eq 27, 3) := by decide +kernel
theorem dX4_fail_10 : decode cX4_fail 10 = .ok (.iload_n 2, 1) := by decide +kernel
theorem dX4_fail_11 : decode cX4_fail 11 = .ok (.iconst 1, 1) := by decide +kernel
theorem dX4_fail_12 : decode cX4_fail 12 = .ok (.bipush 40, 2) := by decide +kernel
theorem dX4_fail_14 : decode cX4_fail 14 = .ok (.invokestatic 49, 3) := by decide +kernel
theorem dX4_fail_17 : decode cX4_fail 17 = .ok (.ifCond .eq 17, 3) := by decide +kernel
theorem dX4_fail_20 : decode cX4_fail 20 = .ok (.iload_n 3, 1) := by decide +kernel
theorem dX4_fail_21 : decode cX4_fail 21 = .ok (.iconst 0, 1) := by decide +kernel
theorem dX4_fail_22 : decode cX4_fail 22 = .ok (.bipush 40, 2) := by decide +kernel
theorem dX4_fail_24 : decode cX4_fail 24 = .ok (.invokestatic 49, 3) := by decide +kernel
theorem dX4_fail_27 : decode cX4_fail 27 = .ok (.ifCond .eq 7, 3) := by decide +kernel
theorem dX4_fail_30 : decode cX4_fail 30 = .ok (.iconst 0, 1) := by decide +kernel
theorem dX4_fail_31 : decode cX4_fail 31 = .ok (.goto 4, 3) := by decide +kernel
theorem dX4_fail_34 : decode cX4_fail 34 = .ok (.iconst 1, 1) := by decide +kernel
theorem dX4_fail_35 : decode cX4_fail 35 = .ok (.putfield 38, 3) := by decide +kernel
theorem dX4_fail_38 : decode cX4_fail 38 = .ok (.aload_n 0, 1) := by decide +kernel
theorem dX4_fail_39 : decode cX4_fail 39 = .ok (.getfield 38, 3) := by decide +kernel
theorem dX4_fail_42 : decode cX4_fail 42 = .ok (.ifCond .le 4, 3) := by decide +kernel
theorem dX4_fail_45 : decode cX4_fail 45 = .ok (.return_, 1) := by decide +kernel
theorem dX4_fail_46 : decode cX4_fail 46 = .ok (.aload_n 0, 1) := by decide +kernel
theorem dX4_fail_47 : decode cX4_fail 47 = .ok (.iload_n 1, 1) := by decide +kernel
theorem dX4_fail_48 : decode cX4_fail 48 = .ok (.putfield 28, 3) := by decide +kernel
theorem dX4_fail_51 : decode cX4_fail 51 = .ok (.aload_n 0, 1) := by decide +kernel
theorem dX4_fail_52 : decode cX4_fail 52 = .ok (.iload_n 3, 1) := by decide +kernel
theorem dX4_fail_53 : decode cX4_fail 53 = .ok (.putfield 126, 3) := by decide +kernel
theorem dX4_fail_56 : decode cX4_fail 56 = .ok (.return_, 1) := by decide +kernel
theorem dX4_mount_0 : decode cX4_mount 0 = .ok (.aload_n 0, 1) := by decide +kernel
theorem dX4_mount_1 : decode cX4_mount 1 = .ok (.aload_n 0, 1) := by decide +kernel
theorem dX4_mount_2 : decode cX4_mount 2 = .ok (.getfield 41, 3) := by decide +kernel
theorem dX4_mount_5 : decode cX4_mount 5 = .ok (.ifCond .eq 7, 3) := by decide +kernel
theorem dX4_mount_8 : decode cX4_mount 8 = .ok (.iconst 0, 1) := by decide +kernel
theorem dX4_mount_9 : decode cX4_mount 9 = .ok (.goto 4, 3) := by decide +kernel
theorem dX4_mount_12 : decode cX4_mount 12 = .ok (.iconst 1, 1) := by decide +kernel
theorem dX4_mount_13 : decode cX4_mount 13 = .ok (.putfield 38, 3) := by decide +kernel
theorem dX4_mount_16 : decode cX4_mount 16 = .ok (.aload_n 0, 1) := by decide +kernel
theorem dX4_mount_17 : decode cX4_mount 17 = .ok (.getfield 41, 3) := by decide +kernel
theorem dX4_mount_20 : decode cX4_mount 20 = .ok (.ifCond .ne 5, 3) := by decide +kernel
theorem dX4_mount_23 : decode cX4_mount 23 = .ok (.iconst 0, 1) := by decide +kernel
theorem dX4_mount_24 : decode cX4_mount 24 = .ok (.ireturn, 1) := by decide +kernel
theorem dX4_mount_25 : decode cX4_mount 25 = .ok (.aload_n 0, 1) := by decide +kernel
theorem dX4_mount_26 : decode cX4_mount 26 = .ok (.iconst 3, 1) := by decide +kernel
theorem dX4_mount_27 : decode cX4_mount 27 = .ok (.invokevirtual 120, 3) := by decide +kernel
theorem dX4_mount_30 : decode cX4_mount 30 = .ok (.ifCond .eq 6, 3) := by decide +kernel
theorem dX4_mount_33 : decode cX4_mount 33 = .ok (.bipush (-9), 2) := by decide +kernel
theorem dX4_mount_35 : decode cX4_mount 35 = .ok (.ireturn, 1) := by decide +kernel
theorem dX4_mount_36 : decode cX4_mount 36 = .ok (.aload_n 0, 1) := by decide +kernel
theorem dX4_mount_37 : decode cX4_mount 37 = .ok (.getfield 13, 3) := by decide +kernel
theorem dX4_mount_40 : decode cX4_mount 40 = .ok (.iconst 0, 1) := by decide +kernel
theorem dX4_mount_41 : decode cX4_mount 41 = .ok (.aload_n 0, 1) := by decide +kernel
theorem dX4_mount_42 : decode cX4_mount 42 = .ok (.getfield 9, 3) := by decide +kernel
theorem dX4_mount_45 : decode cX4_mount 45 = .ok (.iconst 0, 1) := by decide +kernel
theorem dX4_mount_46 : decode cX4_mount 46 = .ok (.sipush 4805, 3) := by decide +kernel
theorem dX4_mount_49 : decode cX4_mount 49 = .ok (.invokestatic 32, 3) := by decide +kernel
theorem dX4_mount_52 : decode cX4_mount 52 = .ok (.iconst 0, 1) := by decide +kernel
theorem dX4_mount_53 : decode cX4_mount 53 = .ok (.istore_n 1, 1) := by decide +kernel
theorem dX4_mount_54 : decode cX4_mount 54 = .ok (.iconst 0, 1) := by decide +kernel
theorem dX4_mount_55 : decode cX4_mount 55 = .ok (.istore_n 2, 1) := by decide +kernel
theorem dX4_mount_56 : decode cX4_mount 56 = .ok (.iload_n 2, 1) := by decide +kernel
theorem dX4_mount_57 : decode cX4_mount 57 = .ok (.bipush 32, 2) := by decide +kernel
theorem dX4_mount_59 : decode cX4_mount 59 = .ok (.if_icmp .ge 46, 3) := by decide +kernel
theorem dX4_mount_62 : decode cX4_mount 62 = .ok (.aload_n 0, 1) := by decide +kernel
theorem dX4_mount_63 : decode cX4_mount 63 = .ok (.getfield 9, 3) := by decide +kernel
theorem dX4_mount_66 : decode cX4_mount 66 = .ok (.iload_n 2, 1) := by decide +kernel
theorem dX4_mount_67 : decode cX4_mount 67 = .ok (.iconst 1, 1) := by decide +kernel
theorem dX4_mount_68 : decode cX4_mount 68 = .ok (.invokestatic 61, 3) := by decide +kernel
theorem dX4_mount_71 : decode cX4_mount 71 = .ok (.ifCond .eq 28, 3) := by decide +kernel
theorem dX4_mount_74 : decode cX4_mount 74 = .ok (.aload_n 0, 1) := by decide +kernel
theorem dX4_mount_75 : decode cX4_mount 75 = .ok (.getfield 9, 3) := by decide +kernel
theorem dX4_mount_78 : decode cX4_mount 78 = .ok (.iload_n 2, 1) := by decide +kernel
theorem dX4_mount_79 : decode cX4_mount 79 = .ok (.invokestatic 89, 3) := by decide +kernel
theorem dX4_mount_82 : decode cX4_mount 82 = .ok (.ifCond .le 6, 3) := by decide +kernel
theorem dX4_mount_85 : decode cX4_mount 85 = .ok (.goto 14, 3) := by decide +kernel
theorem dX4_mount_88 : decode cX4_mount 88 = .ok (.aload_n 0, 1) := by decide +kernel
theorem dX4_mount_89 : decode cX4_mount 89 = .ok (.getfield 9, 3) := by decide +kernel
theorem dX4_mount_92 : decode cX4_mount 92 = .ok (.iload_n 2, 1) := by decide +kernel
theorem dX4_mount_93 : decode cX4_mount 93 = .ok (.invokestatic 95, 3) := by decide +kernel
theorem dX4_mount_96 : decode cX4_mount 96 = .ok (.iinc 1 1, 3) := by decide +kernel
theorem dX4_mount_99 : decode cX4_mount 99 = .ok (.iinc 2 1, 3) := by decide +kernel
theorem dX4_mount_102 : decode cX4_mount 102 = .ok (.goto (-46), 3) := by decide +kernel
theorem dX4_mount_105 : decode cX4_mount 105 = .ok (.aload_n 0, 1) := by decide +kernel
theorem dX4_mount_106 : decode cX4_mount 106 = .ok (.getfield 9, 3) := by decide +kernel
theorem dX4_mount_109 : decode cX4_mount 109 = .ok (.iconst 0, 1) := by decide +kernel
theorem dX4_mount_110 : decode cX4_mount 110 = .ok (.aload_n 0, 1) := by decide +kernel
theorem dX4_mount_111 : decode cX4_mount 111 = .ok (.getfield 13, 3) := by decide +kernel
theorem dX4_mount_114 : decode cX4_mount 114 = .ok (.iconst 0, 1) := by decide +kernel
theorem dX4_mount_115 : decode cX4_mount 115 = .ok (.sipush 4805, 3) := by decide +kernel
theorem dX4_mount_118 : decode cX4_mount 118 = .ok (.invokestatic 32, 3) := by decide +kernel
theorem dX4_mount_121 : decode cX4_mount 121 = .ok (.aload_n 0, 1) := by decide +kernel
theorem dX4_mount_122 : decode cX4_mount 122 = .ok (.iconst 0, 1) := by decide +kernel
theorem dX4_mount_123 : decode cX4_mount 123 = .ok (.putfield 41, 3) := by decide +kernel
theorem dX4_mount_126 : decode cX4_mount 126 = .ok (.aload_n 0, 1) := by decide +kernel
theorem dX4_mount_127 : decode cX4_mount 127 = .ok (.dup, 1) := by decide +kernel
theorem dX4_mount_128 : decode cX4_mount 128 = .ok (.getfield 234, 3) := by decide +kernel
theorem dX4_mount_131 : decode cX4_mount 131 = .ok (.iconst 1, 1) := by decide +kernel
theorem dX4_mount_132 : decode cX4_mount 132 = .ok (.iadd, 1) := by decide +kernel
theorem dX4_mount_133 : decode cX4_mount 133 = .ok (.putfield 234, 3) := by decide +kernel
theorem dX4_mount_136 : decode cX4_mount 136 = .ok (.iload_n 1, 1) := by decide +kernel
theorem dX4_mount_137 : decode cX4_mount 137 = .ok (.ireturn, 1) := by decide +kernel
theorem dX4_isDown_0 : decode cX4_isDown 0 = .ok (.aload_n 0, 1) := by decide +kernel
theorem dX4_isDown_1 : decode cX4_isDown 1 = .ok (.iconst 0, 1) := by decide +kernel
theorem dX4_isDown_2 : decode cX4_isDown 2 = .ok (.putfield 38, 3) := by decide +kernel
theorem dX4_isDown_5 : decode cX4_isDown 5 = .ok (.aload_n 0, 1) := by decide +kernel
theorem dX4_isDown_6 : decode cX4_isDown 6 = .ok (.getfield 41, 3) := by decide +kernel
theorem dX4_isDown_9 : decode cX4_isDown 9 = .ok (.ireturn, 1) := by decide +kernel
theorem dX4_mounts_0 : decode cX4_mounts 0 = .ok (.aload_n 0, 1) := by decide +kernel
theorem dX4_mounts_1 : decode cX4_mounts 1 = .ok (.iconst 0, 1) := by decide +kernel
theorem dX4_mounts_2 : decode cX4_mounts 2 = .ok (.putfield 38, 3) := by decide +kernel
theorem dX4_mounts_5 : decode cX4_mounts 5 = .ok (.aload_n 0, 1) := by decide +kernel
theorem dX4_mounts_6 : decode cX4_mounts 6 = .ok (.getfield 234, 3) := by decide +kernel
theorem dX4_mounts_9 : decode cX4_mounts 9 = .ok (.ireturn, 1) := by decide +kernel
theorem dX4_waiting_0 : decode cX4_waiting 0 = .ok (.aload_n 0, 1) := by decide +kernel
theorem dX4_waiting_1 : decode cX4_waiting 1 = .ok (.invokevirtual 129, 3) := by decide +kernel
theorem dX4_waiting_4 : decode cX4_waiting 4 = .ok (.ifCond .eq 7, 3) := by decide +kernel
theorem dX4_waiting_7 : decode cX4_waiting 7 = .ok (.iconst 0, 1) := by decide +kernel
theorem dX4_waiting_8 : decode cX4_waiting 8 = .ok (.goto 7, 3) := by decide +kernel
theorem dX4_waiting_11 : decode cX4_waiting 11 = .ok (.aload_n 0, 1) := by decide +kernel
theorem dX4_waiting_12 : decode cX4_waiting 12 = .ok (.getfield 106, 3) := by decide +kernel
theorem dX4_waiting_15 : decode cX4_waiting 15 = .ok (.ireturn, 1) := by decide +kernel
theorem dX4_changes_0 : decode cX4_changes 0 = .ok (.aload_n 0, 1) := by decide +kernel
theorem dX4_changes_1 : decode cX4_changes 1 = .ok (.invokevirtual 129, 3) := by decide +kernel
theorem dX4_changes_4 : decode cX4_changes 4 = .ok (.ifCond .eq 7, 3) := by decide +kernel
theorem dX4_changes_7 : decode cX4_changes 7 = .ok (.iconst 0, 1) := by decide +kernel
theorem dX4_changes_8 : decode cX4_changes 8 = .ok (.goto 11, 3) := by decide +kernel
theorem dX4_changes_11 : decode cX4_changes 11 = .ok (.aload_n 0, 1) := by decide +kernel
theorem dX4_changes_12 : decode cX4_changes 12 = .ok (.getfield 9, 3) := by decide +kernel
theorem dX4_changes_15 : decode cX4_changes 15 = .ok (.sipush 1604, 3) := by decide +kernel
theorem dX4_changes_18 : decode cX4_changes 18 = .ok (.iaload, 1) := by decide +kernel
theorem dX4_changes_19 : decode cX4_changes 19 = .ok (.ireturn, 1) := by decide +kernel
theorem dX4_count_0 : decode cX4_count 0 = .ok (.iconst 0, 1) := by decide +kernel
theorem dX4_count_1 : decode cX4_count 1 = .ok (.istore_n 1, 1) := by decide +kernel
theorem dX4_count_2 : decode cX4_count 2 = .ok (.iconst 0, 1) := by decide +kernel
theorem dX4_count_3 : decode cX4_count 3 = .ok (.istore_n 2, 1) := by decide +kernel
theorem dX4_count_4 : decode cX4_count 4 = .ok (.iload_n 2, 1) := by decide +kernel
theorem dX4_count_5 : decode cX4_count 5 = .ok (.bipush 32, 2) := by decide +kernel
theorem dX4_count_7 : decode cX4_count 7 = .ok (.if_icmp .ge 28, 3) := by decide +kernel
theorem dX4_count_10 : decode cX4_count 10 = .ok (.iload_n 1, 1) := by decide +kernel
theorem dX4_count_11 : decode cX4_count 11 = .ok (.aload_n 0, 1) := by decide +kernel
theorem dX4_count_12 : decode cX4_count 12 = .ok (.getfield 9, 3) := by decide +kernel
theorem dX4_count_15 : decode cX4_count 15 = .ok (.iconst 0, 1) := by decide +kernel
theorem dX4_count_16 : decode cX4_count 16 = .ok (.iload_n 2, 1) := by decide +kernel
theorem dX4_count_17 : decode cX4_count 17 = .ok (.iadd, 1) := by decide +kernel
theorem dX4_count_18 : decode cX4_count 18 = .ok (.iaload, 1) := by decide +kernel
theorem dX4_count_19 : decode cX4_count 19 = .ok (.ifCond .eq 7, 3) := by decide +kernel
theorem dX4_count_22 : decode cX4_count 22 = .ok (.iconst 1, 1) := by decide +kernel
theorem dX4_count_23 : decode cX4_count 23 = .ok (.goto 4, 3) := by decide +kernel
theorem dX4_count_26 : decode cX4_count 26 = .ok (.iconst 0, 1) := by decide +kernel
theorem dX4_count_27 : decode cX4_count 27 = .ok (.iadd, 1) := by decide +kernel
theorem dX4_count_28 : decode cX4_count 28 = .ok (.istore_n 1, 1) := by decide +kernel
theorem dX4_count_29 : decode cX4_count 29 = .ok (.iinc 2 1, 3) := by decide +kernel
theorem dX4_count_32 : decode cX4_count 32 = .ok (.goto (-28), 3) := by decide +kernel
theorem dX4_count_35 : decode cX4_count 35 = .ok (.iload_n 1, 1) := by decide +kernel
theorem dX4_count_36 : decode cX4_count 36 = .ok (.ireturn, 1) := by decide +kernel
theorem dX4_nodes_0 : decode cX4_nodes 0 = .ok (.aload_n 0, 1) := by decide +kernel
theorem dX4_nodes_1 : decode cX4_nodes 1 = .ok (.invokevirtual 129, 3) := by decide +kernel
theorem dX4_nodes_4 : decode cX4_nodes 4 = .ok (.ifCond .eq 7, 3) := by decide +kernel
theorem dX4_nodes_7 : decode cX4_nodes 7 = .ok (.iconst 0, 1) := by decide +kernel
theorem dX4_nodes_8 : decode cX4_nodes 8 = .ok (.goto 7, 3) := by decide +kernel
theorem dX4_nodes_11 : decode cX4_nodes 11 = .ok (.aload_n 0, 1) := by decide +kernel
theorem dX4_nodes_12 : decode cX4_nodes 12 = .ok (.invokevirtual 237, 3) := by decide +kernel
theorem dX4_nodes_15 : decode cX4_nodes 15 = .ok (.ireturn, 1) := by decide +kernel
theorem dX4_typeOf_0 : decode cX4_typeOf 0 = .ok (.aload_n 0, 1) := by decide +kernel
theorem dX4_typeOf_1 : decode cX4_typeOf 1 = .ok (.invokevirtual 129, 3) := by decide +kernel
theorem dX4_typeOf_4 : decode cX4_typeOf 4 = .ok (.ifCond .ne 24, 3) := by decide +kernel
theorem dX4_typeOf_7 : decode cX4_typeOf 7 = .ok (.iload_n 1, 1) := by decide +kernel
theorem dX4_typeOf_8 : decode cX4_typeOf 8 = .ok (.iconst 0, 1) := by decide +kernel
theorem dX4_typeOf_9 : decode cX4_typeOf 9 = .ok (.bipush 31, 2) := by decide +kernel
theorem dX4_typeOf_11 : decode cX4_typeOf 11 = .ok (.invokestatic 49, 3) := by decide +kernel
theorem dX4_typeOf_14 : decode cX4_typeOf 14 = .ok (.ifCond .eq 14, 3) := by decide +kernel
theorem dX4_typeOf_17 : decode cX4_typeOf 17 = .ok (.aload_n 0, 1) := by decide +kernel
theorem dX4_typeOf_18 : decode cX4_typeOf 18 = .ok (.getfield 9, 3) := by decide +kernel
theorem dX4_typeOf_21 : decode cX4_typeOf 21 = .ok (.iconst 0, 1) := by decide +kernel
theorem dX4_typeOf_22 : decode cX4_typeOf 22 = .ok (.iload_n 1, 1) := by decide +kernel
theorem dX4_typeOf_23 : decode cX4_typeOf 23 = .ok (.iadd, 1) := by decide +kernel
theorem dX4_typeOf_24 : decode cX4_typeOf 24 = .ok (.iaload, 1) := by decide +kernel
theorem dX4_typeOf_25 : decode cX4_typeOf 25 = .ok (.goto 4, 3) := by decide +kernel
theorem dX4_typeOf_28 : decode cX4_typeOf 28 = .ok (.iconst 0, 1) := by decide +kernel
theorem dX4_typeOf_29 : decode cX4_typeOf 29 = .ok (.ireturn, 1) := by decide +kernel
theorem dX4_linksOf_0 : decode cX4_linksOf 0 = .ok (.aload_n 0, 1) := by decide +kernel
theorem dX4_linksOf_1 : decode cX4_linksOf 1 = .ok (.iload_n 1, 1) := by decide +kernel
theorem dX4_linksOf_2 : decode cX4_linksOf 2 = .ok (.invokevirtual 211, 3) := by decide +kernel
theorem dX4_linksOf_5 : decode cX4_linksOf 5 = .ok (.ifCond .eq 7, 3) := by decide +kernel
theorem dX4_linksOf_8 : decode cX4_linksOf 8 = .ok (.iconst 0, 1) := by decide +kernel
theorem dX4_linksOf_9 : decode cX4_linksOf 9 = .ok (.goto 11, 3) := by decide +kernel
theorem dX4_linksOf_12 : decode cX4_linksOf 12 = .ok (.aload_n 0, 1) := by decide +kernel
theorem dX4_linksOf_13 : decode cX4_linksOf 13 = .ok (.getfield 9, 3) := by decide +kernel
theorem dX4_linksOf_16 : decode cX4_linksOf 16 = .ok (.iload_n 1, 1) := by decide +kernel
theorem dX4_linksOf_17 : decode cX4_linksOf 17 = .ok (.invokestatic 89, 3) := by decide +kernel
theorem dX4_linksOf_20 : decode cX4_linksOf 20 = .ok (.ireturn, 1) := by decide +kernel
theorem dX4_ownerOf_0 : decode cX4_ownerOf 0 = .ok (.aload_n 0, 1) := by decide +kernel
theorem dX4_ownerOf_1 : decode cX4_ownerOf 1 = .ok (.iload_n 1, 1) := by decide +kernel
theorem dX4_ownerOf_2 : decode cX4_ownerOf 2 = .ok (.invokevirtual 211, 3) := by decide +kernel
theorem dX4_ownerOf_5 : decode cX4_ownerOf 5 = .ok (.ifCond .eq 7, 3) := by decide +kernel
theorem dX4_ownerOf_8 : decode cX4_ownerOf 8 = .ok (.iconst 0, 1) := by decide +kernel
theorem dX4_ownerOf_9 : decode cX4_ownerOf 9 = .ok (.goto 12, 3) := by decide +kernel
theorem dX4_ownerOf_12 : decode cX4_ownerOf 12 = .ok (.aload_n 0, 1) := by decide +kernel
theorem dX4_ownerOf_13 : decode cX4_ownerOf 13 = .ok (.getfield 9, 3) := by decide +kernel
theorem dX4_ownerOf_16 : decode cX4_ownerOf 16 = .ok (.bipush 32, 2) := by decide +kernel
theorem dX4_ownerOf_18 : decode cX4_ownerOf 18 = .ok (.iload_n 1, 1) := by decide +kernel
theorem dX4_ownerOf_19 : decode cX4_ownerOf 19 = .ok (.iadd, 1) := by decide +kernel
theorem dX4_ownerOf_20 : decode cX4_ownerOf 20 = .ok (.iaload, 1) := by decide +kernel
theorem dX4_ownerOf_21 : decode cX4_ownerOf 21 = .ok (.ireturn, 1) := by decide +kernel
theorem dX4_size_0 : decode cX4_size 0 = .ok (.aload_n 0, 1) := by decide +kernel
theorem dX4_size_1 : decode cX4_size 1 = .ok (.getfield 9, 3) := by decide +kernel
theorem dX4_size_4 : decode cX4_size 4 = .ok (.iload_n 1, 1) := by decide +kernel
theorem dX4_size_5 : decode cX4_size 5 = .ok (.iconst 1, 1) := by decide +kernel
theorem dX4_size_6 : decode cX4_size 6 = .ok (.invokestatic 61, 3) := by decide +kernel
theorem dX4_size_9 : decode cX4_size 9 = .ok (.ifCond .eq 13, 3) := by decide +kernel
theorem dX4_size_12 : decode cX4_size 12 = .ok (.aload_n 0, 1) := by decide +kernel
theorem dX4_size_13 : decode cX4_size 13 = .ok (.getfield 9, 3) := by decide +kernel
theorem dX4_size_16 : decode cX4_size 16 = .ok (.bipush 64, 2) := by decide +kernel
theorem dX4_size_18 : decode cX4_size 18 = .ok (.iload_n 1, 1) := by decide +kernel
theorem dX4_size_19 : decode cX4_size 19 = .ok (.iadd, 1) := by decide +kernel
theorem dX4_size_20 : decode cX4_size 20 = .ok (.iaload, 1) := by decide +kernel
theorem dX4_size_21 : decode cX4_size 21 = .ok (.ireturn, 1) := by decide +kernel
theorem dX4_size_22 : decode cX4_size 22 = .ok (.aload_n 0, 1) := by decide +kernel
theorem dX4_size_23 : decode cX4_size 23 = .ok (.getfield 9, 3) := by decide +kernel
theorem dX4_size_26 : decode cX4_size 26 = .ok (.iload_n 1, 1) := by decide +kernel
theorem dX4_size_27 : decode cX4_size 27 = .ok (.iconst 2, 1) := by decide +kernel
theorem dX4_size_28 : decode cX4_size 28 = .ok (.invokestatic 61, 3) := by decide +kernel
theorem dX4_size_31 : decode cX4_size 31 = .ok (.ifCond .eq 12, 3) := by decide +kernel
theorem dX4_size_34 : decode cX4_size 34 = .ok (.aload_n 0, 1) := by decide +kernel
theorem dX4_size_35 : decode cX4_size 35 = .ok (.getfield 9, 3) := by decide +kernel
theorem dX4_size_38 : decode cX4_size 38 = .ok (.iload_n 1, 1) := by decide +kernel
theorem dX4_size_39 : decode cX4_size 39 = .ok (.invokestatic 53, 3) := by decide +kernel
theorem dX4_size_42 : decode cX4_size 42 = .ok (.ireturn, 1) := by decide +kernel
theorem dX4_size_43 : decode cX4_size 43 = .ok (.aload_n 0, 1) := by decide +kernel
theorem dX4_size_44 : decode cX4_size 44 = .ok (.getfield 9, 3) := by decide +kernel
theorem dX4_size_47 : decode cX4_size 47 = .ok (.sipush 128, 3) := by decide +kernel
theorem dX4_size_50 : decode cX4_size 50 = .ok (.iload_n 1, 1) := by decide +kernel
theorem dX4_size_51 : decode cX4_size 51 = .ok (.iadd, 1) := by decide +kernel
theorem dX4_size_52 : decode cX4_size 52 = .ok (.iaload, 1) := by decide +kernel
theorem dX4_size_53 : decode cX4_size 53 = .ok (.ifCond .le 7, 3) := by decide +kernel
theorem dX4_size_56 : decode cX4_size 56 = .ok (.iconst 1, 1) := by decide +kernel
theorem dX4_size_57 : decode cX4_size 57 = .ok (.goto 4, 3) := by decide +kernel
theorem dX4_size_60 : decode cX4_size 60 = .ok (.iconst 0, 1) := by decide +kernel
theorem dX4_size_61 : decode cX4_size 61 = .ok (.aload_n 0, 1) := by decide +kernel
theorem dX4_size_62 : decode cX4_size 62 = .ok (.getfield 9, 3) := by decide +kernel
theorem dX4_size_65 : decode cX4_size 65 = .ok (.sipush 160, 3) := by decide +kernel
theorem dX4_size_68 : decode cX4_size 68 = .ok (.iload_n 1, 1) := by decide +kernel
theorem dX4_size_69 : decode cX4_size 69 = .ok (.iadd, 1) := by decide +kernel
theorem dX4_size_70 : decode cX4_size 70 = .ok (.iaload, 1) := by decide +kernel
theorem dX4_size_71 : decode cX4_size 71 = .ok (.ifCond .le 7, 3) := by decide +kernel
theorem dX4_size_74 : decode cX4_size 74 = .ok (.iconst 1, 1) := by decide +kernel
theorem dX4_size_75 : decode cX4_size 75 = .ok (.goto 4, 3) := by decide +kernel
theorem dX4_size_78 : decode cX4_size 78 = .ok (.iconst 0, 1) := by decide +kernel
theorem dX4_size_79 : decode cX4_size 79 = .ok (.iadd, 1) := by decide +kernel
theorem dX4_size_80 : decode cX4_size 80 = .ok (.ireturn, 1) := by decide +kernel
theorem dX4_sizeOf_0 : decode cX4_sizeOf 0 = .ok (.aload_n 0, 1) := by decide +kernel
theorem dX4_sizeOf_1 : decode cX4_sizeOf 1 = .ok (.iload_n 1, 1) := by decide +kernel
theorem dX4_sizeOf_2 : decode cX4_sizeOf 2 = .ok (.invokevirtual 211, 3) := by decide +kernel
theorem dX4_sizeOf_5 : decode cX4_sizeOf 5 = .ok (.ifCond .eq 7, 3) := by decide +kernel
theorem dX4_sizeOf_8 : decode cX4_sizeOf 8 = .ok (.iconst 0, 1) := by decide +kernel
theorem dX4_sizeOf_9 : decode cX4_sizeOf 9 = .ok (.goto 8, 3) := by decide +kernel
theorem dX4_sizeOf_12 : decode cX4_sizeOf 12 = .ok (.aload_n 0, 1) := by decide +kernel
theorem dX4_sizeOf_13 : decode cX4_sizeOf 13 = .ok (.iload_n 1, 1) := by decide +kernel
theorem dX4_sizeOf_14 : decode cX4_sizeOf 14 = .ok (.invokevirtual 240, 3) := by decide +kernel
theorem dX4_sizeOf_17 : decode cX4_sizeOf 17 = .ok (.ireturn, 1) := by decide +kernel
theorem dX4_blocksOf_0 : decode cX4_blocksOf 0 = .ok (.aload_n 0, 1) := by decide +kernel
theorem dX4_blocksOf_1 : decode cX4_blocksOf 1 = .ok (.iload_n 1, 1) := by decide +kernel
theorem dX4_blocksOf_2 : decode cX4_blocksOf 2 = .ok (.invokevirtual 211, 3) := by decide +kernel
theorem dX4_blocksOf_5 : decode cX4_blocksOf 5 = .ok (.ifCond .eq 7, 3) := by decide +kernel
theorem dX4_blocksOf_8 : decode cX4_blocksOf 8 = .ok (.iconst 0, 1) := by decide +kernel
theorem dX4_blocksOf_9 : decode cX4_blocksOf 9 = .ok (.goto 11, 3) := by decide +kernel
theorem dX4_blocksOf_12 : decode cX4_blocksOf 12 = .ok (.aload_n 0, 1) := by decide +kernel
theorem dX4_blocksOf_13 : decode cX4_blocksOf 13 = .ok (.getfield 9, 3) := by decide +kernel
theorem dX4_blocksOf_16 : decode cX4_blocksOf 16 = .ok (.iload_n 1, 1) := by decide +kernel
theorem dX4_blocksOf_17 : decode cX4_blocksOf 17 = .ok (.invokestatic 80, 3) := by decide +kernel
theorem dX4_blocksOf_20 : decode cX4_blocksOf 20 = .ok (.ireturn, 1) := by decide +kernel
theorem dX4_shared_0 : decode cX4_shared 0 = .ok (.iconst 0, 1) := by decide +kernel
theorem dX4_shared_1 : decode cX4_shared 1 = .ok (.istore_n 2, 1) := by decide +kernel
theorem dX4_shared_2 : decode cX4_shared 2 = .ok (.iconst 0, 1) := by decide +kernel
theorem dX4_shared_3 : decode cX4_shared 3 = .ok (.istore_n 3, 1) := by decide +kernel
theorem dX4_shared_4 : decode cX4_shared 4 = .ok (.iload_n 3, 1) := by decide +kernel
theorem dX4_shared_5 : decode cX4_shared 5 = .ok (.bipush 20, 2) := by decide +kernel
theorem dX4_shared_7 : decode cX4_shared 7 = .ok (.if_icmp .ge 52, 3) := by decide +kernel
theorem dX4_shared_10 : decode cX4_shared 10 = .ok (.aload_n 0, 1) := by decide +kernel
theorem dX4_shared_11 : decode cX4_shared 11 = .ok (.getfield 9, 3) := by decide +kernel
theorem dX4_shared_14 : decode cX4_shared 14 = .ok (.sipush 192, 3) := by decide +kernel
theorem dX4_shared_17 : decode cX4_shared 17 = .ok (.iload_n 1, 1) := by decide +kernel
theorem dX4_shared_18 : decode cX4_shared 18 = .ok (.bipush 20, 2) := by decide +kernel
theorem dX4_shared_20 : decode cX4_shared 20 = .ok (.imul, 1) := by decide +kernel
theorem dX4_shared_21 : decode cX4_shared 21 = .ok (.iadd, 1) := by decide +kernel
theorem dX4_shared_22 : decode cX4_shared 22 = .ok (.iload_n 3, 1) := by decide +kernel
theorem dX4_shared_23 : decode cX4_shared 23 = .ok (.iadd, 1) := by decide +kernel
theorem dX4_shared_24 : decode cX4_shared 24 = .ok (.iaload, 1) := by decide +kernel
theorem dX4_shared_25 : decode cX4_shared 25 = .ok (.istore 4, 2) := by decide +kernel
theorem dX4_shared_27 : decode cX4_shared 27 = .ok (.iload_n 2, 1) := by decide +kernel
theorem dX4_shared_28 : decode cX4_shared 28 = .ok (.iload 4, 2) := by decide +kernel
theorem dX4_shared_30 : decode cX4_shared 30 = .ok (.ifCond .le 20, 3) := by decide +kernel
theorem dX4_shared_33 : decode cX4_shared 33 = .ok (.aload_n 0, 1) := by decide +kernel
theorem dX4_shared_34 : decode cX4_shared 34 = .ok (.getfield 9, 3) := by decide +kernel
theorem dX4_shared_37 : decode cX4_shared 37 = .ok (.iload 4, 2) := by decide +kernel
theorem dX4_shared_39 : decode cX4_shared 39 = .ok (.invokestatic 83, 3) := by decide +kernel
theorem dX4_shared_42 : decode cX4_shared 42 = .ok (.iconst 1, 1) := by decide +kernel
theorem dX4_shared_43 : decode cX4_shared 43 = .ok (.if_icmp .le 7, 3) := by decide +kernel
theorem dX4_shared_46 : decode cX4_shared 46 = .ok (.iconst 1, 1) := by decide +kernel
theorem dX4_shared_47 : decode cX4_shared 47 = .ok (.goto 4, 3) := by decide +kernel
theorem dX4_shared_50 : decode cX4_shared 50 = .ok (.iconst 0, 1) := by decide +kernel
theorem dX4_shared_51 : decode cX4_shared 51 = .ok (.iadd, 1) := by decide +kernel
theorem dX4_shared_52 : decode cX4_shared 52 = .ok (.istore_n 2, 1) := by decide +kernel
theorem dX4_shared_53 : decode cX4_shared 53 = .ok (.iinc 3 1, 3) := by decide +kernel
theorem dX4_shared_56 : decode cX4_shared 56 = .ok (.goto (-52), 3) := by decide +kernel
theorem dX4_shared_59 : decode cX4_shared 59 = .ok (.iload_n 2, 1) := by decide +kernel
theorem dX4_shared_60 : decode cX4_shared 60 = .ok (.ireturn, 1) := by decide +kernel
theorem dX4_sharedOf_0 : decode cX4_sharedOf 0 = .ok (.aload_n 0, 1) := by decide +kernel
theorem dX4_sharedOf_1 : decode cX4_sharedOf 1 = .ok (.iload_n 1, 1) := by decide +kernel
theorem dX4_sharedOf_2 : decode cX4_sharedOf 2 = .ok (.invokevirtual 211, 3) := by decide +kernel
theorem dX4_sharedOf_5 : decode cX4_sharedOf 5 = .ok (.ifCond .eq 7, 3) := by decide +kernel
theorem dX4_sharedOf_8 : decode cX4_sharedOf 8 = .ok (.iconst 0, 1) := by decide +kernel
theorem dX4_sharedOf_9 : decode cX4_sharedOf 9 = .ok (.goto 8, 3) := by decide +kernel
theorem dX4_sharedOf_12 : decode cX4_sharedOf 12 = .ok (.aload_n 0, 1) := by decide +kernel
theorem dX4_sharedOf_13 : decode cX4_sharedOf 13 = .ok (.iload_n 1, 1) := by decide +kernel
theorem dX4_sharedOf_14 : decode cX4_sharedOf 14 = .ok (.invokevirtual 243, 3) := by decide +kernel
theorem dX4_sharedOf_17 : decode cX4_sharedOf 17 = .ok (.ireturn, 1) := by decide +kernel
theorem dX4_byteAt_0 : decode cX4_byteAt 0 = .ok (.aload_n 0, 1) := by decide +kernel
theorem dX4_byteAt_1 : decode cX4_byteAt 1 = .ok (.iload_n 1, 1) := by decide +kernel
theorem dX4_byteAt_2 : decode cX4_byteAt 2 = .ok (.iload_n 2, 1) := by decide +kernel
theorem dX4_byteAt_3 : decode cX4_byteAt 3 = .ok (.sipush 319, 3) := by decide +kernel
theorem dX4_byteAt_6 : decode cX4_byteAt 6 = .ok (.invokevirtual 205, 3) := by decide +kernel
theorem dX4_byteAt_9 : decode cX4_byteAt 9 = .ok (.ifCond .ne 15, 3) := by decide +kernel
theorem dX4_byteAt_12 : decode cX4_byteAt 12 = .ok (.aload_n 0, 1) := by decide +kernel
theorem dX4_byteAt_13 : decode cX4_byteAt 13 = .ok (.getfield 9, 3) := by decide +kernel
theorem dX4_byteAt_16 : decode cX4_byteAt 16 = .ok (.iload_n 1, 1) := by decide +kernel
theorem dX4_byteAt_17 : decode cX4_byteAt 17 = .ok (.iconst 1, 1) := by decide +kernel
theorem dX4_byteAt_18 : decode cX4_byteAt 18 = .ok (.invokestatic 61, 3) := by decide +kernel
theorem dX4_byteAt_21 : decode cX4_byteAt 21 = .ok (.ifCond .ne 7, 3) := by decide +kernel
theorem dX4_byteAt_24 : decode cX4_byteAt 24 = .ok (.iconst 0, 1) := by decide +kernel
theorem dX4_byteAt_25 : decode cX4_byteAt 25 = .ok (.goto 12, 3) := by decide +kernel
theorem dX4_byteAt_28 : decode cX4_byteAt 28 = .ok (.aload_n 0, 1) := by decide +kernel
theorem dX4_byteAt_29 : decode cX4_byteAt 29 = .ok (.getfield 9, 3) := by decide +kernel
theorem dX4_byteAt_32 : decode cX4_byteAt 32 = .ok (.iload_n 1, 1) := by decide +kernel
theorem dX4_byteAt_33 : decode cX4_byteAt 33 = .ok (.iload_n 2, 1) := by decide +kernel
theorem dX4_byteAt_34 : decode cX4_byteAt 34 = .ok (.invokestatic 217, 3) := by decide +kernel
theorem dX4_byteAt_37 : decode cX4_byteAt 37 = .ok (.ireturn, 1) := by decide +kernel
theorem dX4_isHole_0 : decode cX4_isHole 0 = .ok (.aload_n 0, 1) := by decide +kernel
theorem dX4_isHole_1 : decode cX4_isHole 1 = .ok (.iload_n 1, 1) := by decide +kernel
theorem dX4_isHole_2 : decode cX4_isHole 2 = .ok (.iload_n 2, 1) := by decide +kernel
theorem dX4_isHole_3 : decode cX4_isHole 3 = .ok (.bipush 19, 2) := by decide +kernel
theorem dX4_isHole_5 : decode cX4_isHole 5 = .ok (.invokevirtual 205, 3) := by decide +kernel
theorem dX4_isHole_8 : decode cX4_isHole 8 = .ok (.ifCond .ne 37, 3) := by decide +kernel
theorem dX4_isHole_11 : decode cX4_isHole 11 = .ok (.aload_n 0, 1) := by decide +kernel
theorem dX4_isHole_12 : decode cX4_isHole 12 = .ok (.getfield 9, 3) := by decide +kernel
theorem dX4_isHole_15 : decode cX4_isHole 15 = .ok (.iload_n 1, 1) := by decide +kernel
theorem dX4_isHole_16 : decode cX4_isHole 16 = .ok (.iconst 1, 1) := by decide +kernel
theorem dX4_isHole_17 : decode cX4_isHole 17 = .ok (.invokestatic 61, 3) := by decide +kernel
theorem dX4_isHole_20 : decode cX4_isHole 20 = .ok (.ifCond .eq 25, 3) := by decide +kernel
theorem dX4_isHole_23 : decode cX4_isHole 23 = .ok (.aload_n 0, 1) := by decide +kernel
theorem dX4_isHole_24 : decode cX4_isHole 24 = .ok (.getfield 9, 3) := by decide +kernel
theorem dX4_isHole_27 : decode cX4_isHole 27 = .ok (.sipush 192, 3) := by decide +kernel
theorem dX4_isHole_30 : decode cX4_isHole 30 = .ok (.iload_n 1, 1) := by decide +kernel
theorem dX4_isHole_31 : decode cX4_isHole 31 = .ok (.bipush 20, 2) := by decide +kernel
theorem dX4_isHole_33 : decode cX4_isHole 33 = .ok (.imul, 1) := by decide +kernel
theorem dX4_isHole_34 : decode cX4_isHole 34 = .ok (.iadd, 1) := by decide +kernel
theorem dX4_isHole_35 : decode cX4_isHole 35 = .ok (.iload_n 2, 1) := by decide +kernel
theorem dX4_isHole_36 : decode cX4_isHole 36 = .ok (.iadd, 1) := by decide +kernel
theorem dX4_isHole_37 : decode cX4_isHole 37 = .ok (.iaload, 1) := by decide +kernel
theorem dX4_isHole_38 : decode cX4_isHole 38 = .ok (.ifCond .ne 7, 3) := by decide +kernel
theorem dX4_isHole_41 : decode cX4_isHole 41 = .ok (.iconst 1, 1) := by decide +kernel
theorem dX4_isHole_42 : decode cX4_isHole 42 = .ok (.goto 4, 3) := by decide +kernel
theorem dX4_isHole_45 : decode cX4_isHole 45 = .ok (.iconst 0, 1) := by decide +kernel
theorem dX4_isHole_46 : decode cX4_isHole 46 = .ok (.ireturn, 1) := by decide +kernel
theorem dX4_next_0 : decode cX4_next 0 = .ok (.iload_n 2, 1) := by decide +kernel
theorem dX4_next_1 : decode cX4_next 1 = .ok (.istore 4, 2) := by decide +kernel
theorem dX4_next_3 : decode cX4_next 3 = .ok (.iload 4, 2) := by decide +kernel
theorem dX4_next_5 : decode cX4_next 5 = .ok (.aload_n 0, 1) := by decide +kernel
theorem dX4_next_6 : decode cX4_next 6 = .ok (.getfield 9, 3) := by decide +kernel
theorem dX4_next_9 : decode cX4_next 9 = .ok (.bipush 64, 2) := by decide +kernel
theorem dX4_next_11 : decode cX4_next 11 = .ok (.iload_n 1, 1) := by decide +kernel
theorem dX4_next_12 : decode cX4_next 12 = .ok (.iadd, 1) := by decide +kernel
theorem dX4_next_13 : decode cX4_next 13 = .ok (.iaload, 1) := by decide +kernel
theorem dX4_next_14 : decode cX4_next 14 = .ok (.if_icmp .ge 40, 3) := by decide +kernel
theorem dX4_next_17 : decode cX4_next 17 = .ok (.aload_n 0, 1) := by decide +kernel
theorem dX4_next_18 : decode cX4_next 18 = .ok (.getfield 9, 3) := by decide +kernel
theorem dX4_next_21 : decode cX4_next 21 = .ok (.sipush 192, 3) := by decide +kernel
theorem dX4_next_24 : decode cX4_next 24 = .ok (.iload_n 1, 1) := by decide +kernel
theorem dX4_next_25 : decode cX4_next 25 = .ok (.bipush 20, 2) := by decide +kernel
theorem dX4_next_27 : decode cX4_next 27 = .ok (.imul, 1) := by decide +kernel
theorem dX4_next_28 : decode cX4_next 28 = .ok (.iadd, 1) := by decide +kernel
theorem dX4_next_29 : decode cX4_next 29 = .ok (.iload 4, 2) := by decide +kernel
theorem dX4_next_31 : decode cX4_next 31 = .ok (.bipush 16, 2) := by decide +kernel
theorem dX4_next_33 : decode cX4_next 33 = .ok (.idiv, 1) := by decide +kernel
theorem dX4_next_34 : decode cX4_next 34 = .ok (.iadd, 1) := by decide +kernel
theorem dX4_next_35 : decode cX4_next 35 = .ok (.iaload, 1) := by decide +kernel
theorem dX4_next_36 : decode cX4_next 36 = .ok (.ifCond .le 7, 3) := by decide +kernel
theorem dX4_next_39 : decode cX4_next 39 = .ok (.iconst 1, 1) := by decide +kernel
theorem dX4_next_40 : decode cX4_next 40 = .ok (.goto 4, 3) := by decide +kernel
theorem dX4_next_43 : decode cX4_next 43 = .ok (.iconst 0, 1) := by decide +kernel
theorem dX4_next_44 : decode cX4_next 44 = .ok (.iload_n 3, 1) := by decide +kernel
theorem dX4_next_45 : decode cX4_next 45 = .ok (.if_icmp .eq 9, 3) := by decide +kernel
theorem dX4_next_48 : decode cX4_next 48 = .ok (.iinc 4 1, 3) := by decide +kernel
theorem dX4_next_51 : decode cX4_next 51 = .ok (.goto (-48), 3) := by decide +kernel
theorem dX4_next_54 : decode cX4_next 54 = .ok (.iload 4, 2) := by decide +kernel
theorem dX4_next_56 : decode cX4_next 56 = .ok (.ireturn, 1) := by decide +kernel
theorem dX4_nextData_0 : decode cX4_nextData 0 = .ok (.aload_n 0, 1) := by decide +kernel
theorem dX4_nextData_1 : decode cX4_nextData 1 = .ok (.iload_n 1, 1) := by decide +kernel
theorem dX4_nextData_2 : decode cX4_nextData 2 = .ok (.iload_n 2, 1) := by decide +kernel
theorem dX4_nextData_3 : decode cX4_nextData 3 = .ok (.sipush 320, 3) := by decide +kernel
theorem dX4_nextData_6 : decode cX4_nextData 6 = .ok (.invokevirtual 205, 3) := by decide +kernel
theorem dX4_nextData_9 : decode cX4_nextData 9 = .ok (.ifCond .eq 5, 3) := by decide +kernel
theorem dX4_nextData_12 : decode cX4_nextData 12 = .ok (.iconst 0, 1) := by decide +kernel
theorem dX4_nextData_13 : decode cX4_nextData 13 = .ok (.ireturn, 1) := by decide +kernel
theorem dX4_nextData_14 : decode cX4_nextData 14 = .ok (.aload_n 0, 1) := by decide +kernel
theorem dX4_nextData_15 : decode cX4_nextData 15 = .ok (.getfield 9, 3) := by decide +kernel
theorem dX4_nextData_18 : decode cX4_nextData 18 = .ok (.iload_n 1, 1) := by decide +kernel
theorem dX4_nextData_19 : decode cX4_nextData 19 = .ok (.iconst 1, 1) := by decide +kernel
theorem dX4_nextData_20 : decode cX4_nextData 20 = .ok (.invokestatic 61, 3) := by decide +kernel
theorem dX4_nextData_23 : decode cX4_nextData 23 = .ok (.ifCond .ne 5, 3) := by decide +kernel
theorem dX4_nextData_26 : decode cX4_nextData 26 = .ok (.iconst (-1), 1) := by decide +kernel
theorem dX4_nextData_27 : decode cX4_nextData 27 = .ok (.ireturn, 1) := by decide +kernel
theorem dX4_nextData_28 : decode cX4_nextData 28 = .ok (.aload_n 0, 1) := by decide +kernel
theorem dX4_nextData_29 : decode cX4_nextData 29 = .ok (.iload_n 1, 1) := by decide +kernel
theorem dX4_nextData_30 : decode cX4_nextData 30 = .ok (.iload_n 2, 1) := by decide +kernel
theorem dX4_nextData_31 : decode cX4_nextData 31 = .ok (.iconst 1, 1) := by decide +kernel
theorem dX4_nextData_32 : decode cX4_nextData 32 = .ok (.invokevirtual 246, 3) := by decide +kernel
theorem dX4_nextData_35 : decode cX4_nextData 35 = .ok (.istore_n 3, 1) := by decide +kernel
theorem dX4_nextData_36 : decode cX4_nextData 36 = .ok (.iload_n 3, 1) := by decide +kernel
theorem dX4_nextData_37 : decode cX4_nextData 37 = .ok (.aload_n 0, 1) := by decide +kernel
theorem dX4_nextData_38 : decode cX4_nextData 38 = .ok (.getfield 9, 3) := by decide +kernel
theorem dX4_nextData_41 : decode cX4_nextData 41 = .ok (.bipush 64, 2) := by decide +kernel
theorem dX4_nextData_43 : decode cX4_nextData 43 = .ok (.iload_n 1, 1) := by decide +kernel
theorem dX4_nextData_44 : decode cX4_nextData 44 = .ok (.iadd, 1) := by decide +kernel
theorem dX4_nextData_45 : decode cX4_nextData 45 = .ok (.iaload, 1) := by decide +kernel
theorem dX4_nextData_46 : decode cX4_nextData 46 = .ok (.if_icmp .ge 7, 3) := by decide +kernel
theorem dX4_nextData_49 : decode cX4_nextData 49 = .ok (.iload_n 3, 1) := by decide +kernel
theorem dX4_nextData_50 : decode cX4_nextData 50 = .ok (.goto 4, 3) := by decide +kernel
theorem dX4_nextData_53 : decode cX4_nextData 53 = .ok (.iconst (-1), 1) := by decide +kernel
theorem dX4_nextData_54 : decode cX4_nextData 54 = .ok (.ireturn, 1) := by decide +kernel
theorem dX4_nextHole_0 : decode cX4_nextHole 0 = .ok (.aload_n 0, 1) := by decide +kernel
theorem dX4_nextHole_1 : decode cX4_nextHole 1 = .ok (.iload_n 1, 1) := by decide +kernel
theorem dX4_nextHole_2 : decode cX4_nextHole 2 = .ok (.iload_n 2, 1) := by decide +kernel
theorem dX4_nextHole_3 : decode cX4_nextHole 3 = .ok (.sipush 320, 3) := by decide +kernel
theorem dX4_nextHole_6 : decode cX4_nextHole 6 = .ok (.invokevirtual 205, 3) := by decide +kernel
theorem dX4_nextHole_9 : decode cX4_nextHole 9 = .ok (.ifCond .eq 5, 3) := by decide +kernel
theorem dX4_nextHole_12 : decode cX4_nextHole 12 = .ok (.iconst 0, 1) := by decide +kernel
theorem dX4_nextHole_13 : decode cX4_nextHole 13 = .ok (.ireturn, 1) := by decide +kernel
theorem dX4_nextHole_14 : decode cX4_nextHole 14 = .ok (.aload_n 0, 1) := by decide +kernel
theorem dX4_nextHole_15 : decode cX4_nextHole 15 = .ok (.getfield 9, 3) := by decide +kernel
theorem dX4_nextHole_18 : decode cX4_nextHole 18 = .ok (.iload_n 1, 1) := by decide +kernel
theorem dX4_nextHole_19 : decode cX4_nextHole 19 = .ok (.iconst 1, 1) := by decide +kernel
theorem dX4_nextHole_20 : decode cX4_nextHole 20 = .ok (.invokestatic 61, 3) := by decide +kernel
theorem dX4_nextHole_23 : decode cX4_nextHole 23 = .ok (.ifCond .eq 16, 3) := by decide +kernel
theorem dX4_nextHole_26 : decode cX4_nextHole 26 = .ok (.iload_n 2, 1) := by decide +kernel
theorem dX4_nextHole_27 : decode cX4_nextHole 27 = .ok (.aload_n 0, 1) := by decide +kernel
theorem dX4_nextHole_28 : decode cX4_nextHole 28 = .ok (.getfield 9, 3) := by decide +kernel
theorem dX4_nextHole_31 : decode cX4_nextHole 31 = .ok (.bipush 64, 2) := by decide +kernel
theorem dX4_nextHole_33 : decode cX4_nextHole 33 = .ok (.iload_n 1, 1) := by decide +kernel
theorem dX4_nextHole_34 : decode cX4_nextHole 34 = .ok (.iadd, 1) := by decide +kernel
theorem dX4_nextHole_35 : decode cX4_nextHole 35 = .ok (.iaload, 1) := by decide +kernel
theorem dX4_nextHole_36 : decode cX4_nextHole 36 = .ok (.if_icmp .lt 7, 3) := by decide +kernel
theorem dX4_nextHole_39 : decode cX4_nextHole 39 = .ok (.iconst (-1), 1) := by decide +kernel
theorem dX4_nextHole_40 : decode cX4_nextHole 40 = .ok (.goto 10, 3) := by decide +kernel
theorem dX4_nextHole_43 : decode cX4_nextHole 43 = .ok (.aload_n 0, 1) := by decide +kernel
theorem dX4_nextHole_44 : decode cX4_nextHole 44 = .ok (.iload_n 1, 1) := by decide +kernel
theorem dX4_nextHole_45 : decode cX4_nextHole 45 = .ok (.iload_n 2, 1) := by decide +kernel
theorem dX4_nextHole_46 : decode cX4_nextHole 46 = .ok (.iconst 0, 1) := by decide +kernel
theorem dX4_nextHole_47 : decode cX4_nextHole 47 = .ok (.invokevirtual 246, 3) := by decide +kernel
theorem dX4_nextHole_50 : decode cX4_nextHole 50 = .ok (.ireturn, 1) := by decide +kernel
theorem dX4_sameBytes_0 : decode cX4_sameBytes 0 = .ok (.aload_n 0, 1) := by decide +kernel
theorem dX4_sameBytes_1 : decode cX4_sameBytes 1 = .ok (.iload_n 1, 1) := by decide +kernel
theorem dX4_sameBytes_2 : decode cX4_sameBytes 2 = .ok (.invokevirtual 211, 3) := by decide +kernel
theorem dX4_sameBytes_5 : decode cX4_sameBytes 5 = .ok (.ifCond .ne 56, 3) := by decide +kernel
theorem dX4_sameBytes_8 : decode cX4_sameBytes 8 = .ok (.aload_n 0, 1) := by decide +kernel
theorem dX4_sameBytes_9 : decode cX4_sameBytes 9 = .ok (.iload_n 2, 1) := by decide +kernel
theorem dX4_sameBytes_10 : decode cX4_sameBytes 10 = .ok (.invokevirtual 211, 3) := by decide +kernel
theorem dX4_sameBytes_13 : decode cX4_sameBytes 13 = .ok (.ifCond .ne 48, 3) := by decide +kernel
theorem dX4_sameBytes_16 : decode cX4_sameBytes 16 = .ok (.aload_n 0, 1) := by decide +kernel
theorem dX4_sameBytes_17 : decode cX4_sameBytes 17 = .ok (.getfield 9, 3) := by decide +kernel
theorem dX4_sameBytes_20 : decode cX4_sameBytes 20 = .ok (.iload_n 1, 1) := by decide +kernel
theorem dX4_sameBytes_21 : decode cX4_sameBytes 21 = .ok (.iconst 1, 1) := by decide +kernel
theorem dX4_sameBytes_22 : decode cX4_sameBytes 22 = .ok (.invokestatic 61, 3) := by decide +kernel
theorem dX4_sameBytes_25 : decode cX4_sameBytes 25 = .ok (.ifCond .eq 36, 3) := by decide +kernel
theorem dX4_sameBytes_28 : decode cX4_sameBytes 28 = .ok (.aload_n 0, 1) := by decide +kernel
theorem dX4_sameBytes_29 : decode cX4_sameBytes 29 = .ok (.getfield 9, 3) := by decide +kernel
theorem dX4_sameBytes_32 : decode cX4_sameBytes 32 = .ok (.iload_n 2, 1) := by decide +kernel
theorem dX4_sameBytes_33 : decode cX4_sameBytes 33 = .ok (.iconst 1, 1) := by decide +kernel
theorem dX4_sameBytes_34 : decode cX4_sameBytes 34 = .ok (.invokestatic 61, 3) := by decide +kernel
theorem dX4_sameBytes_37 : decode cX4_sameBytes 37 = .ok (.ifCond .eq 24, 3) := by decide +kernel
theorem dX4_sameBytes_40 : decode cX4_sameBytes 40 = .ok (.aload_n 0, 1) := by decide +kernel
theorem dX4_sameBytes_41 : decode cX4_sameBytes 41 = .ok (.getfield 9, 3) := by decide +kernel
theorem dX4_sameBytes_44 : decode cX4_sameBytes 44 = .ok (.bipush 64, 2) := by decide +kernel
theorem dX4_sameBytes_46 : decode cX4_sameBytes 46 = .ok (.iload_n 1, 1) := by decide +kernel
theorem dX4_sameBytes_47 : decode cX4_sameBytes 47 = .ok (.iadd, 1) := by decide +kernel
theorem dX4_sameBytes_48 : decode cX4_sameBytes 48 = .ok (.iaload, 1) := by decide +kernel
theorem dX4_sameBytes_49 : decode cX4_sameBytes 49 = .ok (.aload_n 0, 1) := by decide +kernel
theorem dX4_sameBytes_50 : decode cX4_sameBytes 50 = .ok (.getfield 9, 3) := by decide +kernel
theorem dX4_sameBytes_53 : decode cX4_sameBytes 53 = .ok (.bipush 64, 2) := by decide +kernel
theorem dX4_sameBytes_55 : decode cX4_sameBytes 55 = .ok (.iload_n 2, 1) := by decide +kernel
theorem dX4_sameBytes_56 : decode cX4_sameBytes 56 = .ok (.iadd, 1) := by decide +kernel
theorem dX4_sameBytes_57 : decode cX4_sameBytes 57 = .ok (.iaload, 1) := by decide +kernel
theorem dX4_sameBytes_58 : decode cX4_sameBytes 58 = .ok (.if_icmp .eq 5, 3) := by decide +kernel
theorem dX4_sameBytes_61 : decode cX4_sameBytes 61 = .ok (.iconst 0, 1) := by decide +kernel
theorem dX4_sameBytes_62 : decode cX4_sameBytes 62 = .ok (.ireturn, 1) := by decide +kernel
theorem dX4_sameBytes_63 : decode cX4_sameBytes 63 = .ok (.iconst 0, 1) := by decide +kernel
theorem dX4_sameBytes_64 : decode cX4_sameBytes 64 = .ok (.istore_n 3, 1) := by decide +kernel
theorem dX4_sameBytes_65 : decode cX4_sameBytes 65 = .ok (.iload_n 3, 1) := by decide +kernel
theorem dX4_sameBytes_66 : decode cX4_sameBytes 66 = .ok (.aload_n 0, 1) := by decide +kernel
theorem dX4_sameBytes_67 : decode cX4_sameBytes 67 = .ok (.getfield 9, 3) := by decide +kernel
theorem dX4_sameBytes_70 : decode cX4_sameBytes 70 = .ok (.bipush 64, 2) := by decide +kernel
theorem dX4_sameBytes_72 : decode cX4_sameBytes 72 = .ok (.iload_n 1, 1) := by decide +kernel
theorem dX4_sameBytes_73 : decode cX4_sameBytes 73 = .ok (.iadd, 1) := by decide +kernel
theorem dX4_sameBytes_74 : decode cX4_sameBytes 74 = .ok (.iaload, 1) := by decide +kernel
theorem dX4_sameBytes_75 : decode cX4_sameBytes 75 = .ok (.if_icmp .ge 32, 3) := by decide +kernel
theorem dX4_sameBytes_78 : decode cX4_sameBytes 78 = .ok (.aload_n 0, 1) := by decide +kernel
theorem dX4_sameBytes_79 : decode cX4_sameBytes 79 = .ok (.getfield 9, 3) := by decide +kernel
theorem dX4_sameBytes_82 : decode cX4_sameBytes 82 = .ok (.iload_n 1, 1) := by decide +kernel
theorem dX4_sameBytes_83 : decode cX4_sameBytes 83 = .ok (.iload_n 3, 1) := by decide +kernel
theorem dX4_sameBytes_84 : decode cX4_sameBytes 84 = .ok (.invokestatic 217, 3) := by decide +kernel
theorem dX4_sameBytes_87 : decode cX4_sameBytes 87 = .ok (.aload_n 0, 1) := by decide +kernel
theorem dX4_sameBytes_88 : decode cX4_sameBytes 88 = .ok (.getfield 9, 3) := by decide +kernel
theorem dX4_sameBytes_91 : decode cX4_sameBytes 91 = .ok (.iload_n 2, 1) := by decide +kernel
theorem dX4_sameBytes_92 : decode cX4_sameBytes 92 = .ok (.iload_n 3, 1) := by decide +kernel
theorem dX4_sameBytes_93 : decode cX4_sameBytes 93 = .ok (.invokestatic 217, 3) := by decide +kernel
theorem dX4_sameBytes_96 : decode cX4_sameBytes 96 = .ok (.if_icmp .eq 5, 3) := by decide +kernel
theorem dX4_sameBytes_99 : decode cX4_sameBytes 99 = .ok (.iconst 0, 1) := by decide +kernel
theorem dX4_sameBytes_100 : decode cX4_sameBytes 100 = .ok (.ireturn, 1) := by decide +kernel
theorem dX4_sameBytes_101 : decode cX4_sameBytes 101 = .ok (.iinc 3 1, 3) := by decide +kernel
theorem dX4_sameBytes_104 : decode cX4_sameBytes 104 = .ok (.goto (-39), 3) := by decide +kernel
theorem dX4_sameBytes_107 : decode cX4_sameBytes 107 = .ok (.iconst 1, 1) := by decide +kernel
theorem dX4_sameBytes_108 : decode cX4_sameBytes 108 = .ok (.ireturn, 1) := by decide +kernel
theorem dX4_lookup_0 : decode cX4_lookup 0 = .ok (.aload_n 0, 1) := by decide +kernel
theorem dX4_lookup_1 : decode cX4_lookup 1 = .ok (.iload_n 1, 1) := by decide +kernel
theorem dX4_lookup_2 : decode cX4_lookup 2 = .ok (.iload_n 2, 1) := by decide +kernel
theorem dX4_lookup_3 : decode cX4_lookup 3 = .ok (.invokevirtual 166, 3) := by decide +kernel
theorem dX4_lookup_6 : decode cX4_lookup 6 = .ok (.ifCond .eq 5, 3) := by decide +kernel
theorem dX4_lookup_9 : decode cX4_lookup 9 = .ok (.iconst 0, 1) := by decide +kernel
theorem dX4_lookup_10 : decode cX4_lookup 10 = .ok (.ireturn, 1) := by decide +kernel
theorem dX4_lookup_11 : decode cX4_lookup 11 = .ok (.aload_n 0, 1) := by decide +kernel
theorem dX4_lookup_12 : decode cX4_lookup 12 = .ok (.getfield 9, 3) := by decide +kernel
theorem dX4_lookup_15 : decode cX4_lookup 15 = .ok (.iload_n 1, 1) := by decide +kernel
theorem dX4_lookup_16 : decode cX4_lookup 16 = .ok (.iconst 2, 1) := by decide +kernel
theorem dX4_lookup_17 : decode cX4_lookup 17 = .ok (.invokestatic 61, 3) := by decide +kernel
theorem dX4_lookup_20 : decode cX4_lookup 20 = .ok (.ifCond .eq 15, 3) := by decide +kernel
theorem dX4_lookup_23 : decode cX4_lookup 23 = .ok (.aload_n 0, 1) := by decide +kernel
theorem dX4_lookup_24 : decode cX4_lookup 24 = .ok (.getfield 9, 3) := by decide +kernel
theorem dX4_lookup_27 : decode cX4_lookup 27 = .ok (.iload_n 1, 1) := by decide +kernel
theorem dX4_lookup_28 : decode cX4_lookup 28 = .ok (.iload_n 2, 1) := by decide +kernel
theorem dX4_lookup_29 : decode cX4_lookup 29 = .ok (.invokestatic 173, 3) := by decide +kernel
theorem dX4_lookup_32 : decode cX4_lookup 32 = .ok (.goto 5, 3) := by decide +kernel
theorem dX4_lookup_35 : decode cX4_lookup 35 = .ok (.bipush (-3), 2) := by decide +kernel
theorem dX4_lookup_37 : decode cX4_lookup 37 = .ok (.ireturn, 1) := by decide +kernel
theorem dX4_step_0 : decode cX4_step 0 = .ok (.aload_n 0, 1) := by decide +kernel
theorem dX4_step_1 : decode cX4_step 1 = .ok (.getfield 9, 3) := by decide +kernel
theorem dX4_step_4 : decode cX4_step 4 = .ok (.iload_n 1, 1) := by decide +kernel
theorem dX4_step_5 : decode cX4_step 5 = .ok (.iload_n 2, 1) := by decide +kernel
theorem dX4_step_6 : decode cX4_step 6 = .ok (.invokestatic 173, 3) := by decide +kernel
theorem dX4_step_9 : decode cX4_step 9 = .ok (.istore_n 3, 1) := by decide +kernel
theorem dX4_step_10 : decode cX4_step 10 = .ok (.iload_n 3, 1) := by decide +kernel
theorem dX4_step_11 : decode cX4_step 11 = .ok (.ifCond .ge 7, 3) := by decide +kernel
theorem dX4_step_14 : decode cX4_step 14 = .ok (.iconst (-1), 1) := by decide +kernel
theorem dX4_step_15 : decode cX4_step 15 = .ok (.goto 9, 3) := by decide +kernel
theorem dX4_step_18 : decode cX4_step 18 = .ok (.aload_n 0, 1) := by decide +kernel
theorem dX4_step_19 : decode cX4_step 19 = .ok (.iload_n 1, 1) := by decide +kernel
theorem dX4_step_20 : decode cX4_step 20 = .ok (.iload_n 3, 1) := by decide +kernel
theorem dX4_step_21 : decode cX4_step 21 = .ok (.invokevirtual 250, 3) := by decide +kernel
theorem dX4_step_24 : decode cX4_step 24 = .ok (.ireturn, 1) := by decide +kernel
theorem dX4_found_0 : decode cX4_found 0 = .ok (.aload_n 0, 1) := by decide +kernel
theorem dX4_found_1 : decode cX4_found 1 = .ok (.getfield 9, 3) := by decide +kernel
theorem dX4_found_4 : decode cX4_found 4 = .ok (.iload_n 2, 1) := by decide +kernel
theorem dX4_found_5 : decode cX4_found 5 = .ok (.iconst 3, 1) := by decide +kernel
theorem dX4_found_6 : decode cX4_found 6 = .ok (.invokestatic 61, 3) := by decide +kernel
theorem dX4_found_9 : decode cX4_found 9 = .ok (.ifCond .ne 5, 3) := by decide +kernel
theorem dX4_found_12 : decode cX4_found 12 = .ok (.iload_n 2, 1) := by decide +kernel
theorem dX4_found_13 : decode cX4_found 13 = .ok (.ireturn, 1) := by decide +kernel
theorem dX4_found_14 : decode cX4_found 14 = .ok (.aload_n 0, 1) := by decide +kernel
theorem dX4_found_15 : decode cX4_found 15 = .ok (.dup, 1) := by decide +kernel
theorem dX4_found_16 : decode cX4_found 16 = .ok (.getfield 253, 3) := by decide +kernel
theorem dX4_found_19 : decode cX4_found 19 = .ok (.iconst 1, 1) := by decide +kernel
theorem dX4_found_20 : decode cX4_found 20 = .ok (.iadd, 1) := by decide +kernel
theorem dX4_found_21 : decode cX4_found 21 = .ok (.putfield 253, 3) := by decide +kernel
theorem dX4_found_24 : decode cX4_found 24 = .ok (.aload_n 0, 1) := by decide +kernel
theorem dX4_found_25 : decode cX4_found 25 = .ok (.getfield 253, 3) := by decide +kernel
theorem dX4_found_28 : decode cX4_found 28 = .ok (.bipush 9, 2) := by decide +kernel
theorem dX4_found_30 : decode cX4_found 30 = .ok (.if_icmp .ne 6, 3) := by decide +kernel
theorem dX4_found_33 : decode cX4_found 33 = .ok (.bipush (-6), 2) := by decide +kernel
theorem dX4_found_35 : decode cX4_found 35 = .ok (.ireturn, 1) := by decide +kernel
theorem dX4_found_36 : decode cX4_found 36 = .ok (.aload_n 0, 1) := by decide +kernel
theorem dX4_found_37 : decode cX4_found 37 = .ok (.getfield 9, 3) := by decide +kernel
theorem dX4_found_40 : decode cX4_found 40 = .ok (.bipush 96, 2) := by decide +kernel
theorem dX4_found_42 : decode cX4_found 42 = .ok (.iload_n 2, 1) := by decide +kernel
theorem dX4_found_43 : decode cX4_found 43 = .ok (.iadd, 1) := by decide +kernel
theorem dX4_found_44 : decode cX4_found 44 = .ok (.iaload, 1) := by decide +kernel
theorem dX4_found_45 : decode cX4_found 45 = .ok (.ifCond .ge 7, 3) := by decide +kernel
theorem dX4_found_48 : decode cX4_found 48 = .ok (.iconst 0, 1) := by decide +kernel
theorem dX4_found_49 : decode cX4_found 49 = .ok (.goto 4, 3) := by decide +kernel
theorem dX4_found_52 : decode cX4_found 52 = .ok (.iload_n 1, 1) := by decide +kernel
theorem dX4_found_53 : decode cX4_found 53 = .ok (.istore_n 3, 1) := by decide +kernel
theorem dX4_found_54 : decode cX4_found 54 = .ok (.iconst 0, 1) := by decide +kernel
theorem dX4_found_55 : decode cX4_found 55 = .ok (.istore 4, 2) := by decide +kernel
theorem dX4_found_57 : decode cX4_found 57 = .ok (.iload 4, 2) := by decide +kernel
theorem dX4_found_59 : decode cX4_found 59 = .ok (.aload_n 0, 1) := by decide +kernel
theorem dX4_found_60 : decode cX4_found 60 = .ok (.getfield 9, 3) := by decide +kernel
theorem dX4_found_63 : decode cX4_found 63 = .ok (.bipush 96, 2) := by decide +kernel
theorem dX4_found_65 : decode cX4_found 65 = .ok (.iload_n 2, 1) := by decide +kernel
theorem dX4_found_66 : decode cX4_found 66 = .ok (.iadd, 1) := by decide +kernel
theorem dX4_found_67 : decode cX4_found 67 = .ok (.iaload, 1) := by decide +kernel
theorem dX4_found_68 : decode cX4_found 68 = .ok (.if_icmp .ge 18, 3) := by decide +kernel
theorem dX4_found_71 : decode cX4_found 71 = .ok (.aload_n 0, 1) := by decide +kernel
theorem dX4_found_72 : decode cX4_found 72 = .ok (.getfield 9, 3) := by decide +kernel
theorem dX4_found_75 : decode cX4_found 75 = .ok (.iload_n 3, 1) := by decide +kernel
theorem dX4_found_76 : decode cX4_found 76 = .ok (.invokestatic 65, 3) := by decide +kernel
theorem dX4_found_79 : decode cX4_found 79 = .ok (.istore_n 3, 1) := by decide +kernel
theorem dX4_found_80 : decode cX4_found 80 = .ok (.iinc 4 1, 3) := by decide +kernel
theorem dX4_found_83 : decode cX4_found 83 = .ok (.goto (-26), 3) := by decide +kernel
theorem dX4_found_86 : decode cX4_found 86 = .ok (.aload_n 0, 1) := by decide +kernel
theorem dX4_found_87 : decode cX4_found 87 = .ok (.getfield 9, 3) := by decide +kernel
theorem dX4_found_90 : decode cX4_found 90 = .ok (.sipush 128, 3) := by decide +kernel
theorem dX4_found_93 : decode cX4_found 93 = .ok (.iload_n 2, 1) := by decide +kernel
theorem dX4_found_94 : decode cX4_found 94 = .ok (.iadd, 1) := by decide +kernel
theorem dX4_found_95 : decode cX4_found 95 = .ok (.iaload, 1) := by decide +kernel
theorem dX4_found_96 : decode cX4_found 96 = .ok (.ifCond .ne 5, 3) := by decide +kernel
theorem dX4_found_99 : decode cX4_found 99 = .ok (.iload_n 3, 1) := by decide +kernel
theorem dX4_found_100 : decode cX4_found 100 = .ok (.ireturn, 1) := by decide +kernel
theorem dX4_found_101 : decode cX4_found 101 = .ok (.aload_n 0, 1) := by decide +kernel
theorem dX4_found_102 : decode cX4_found 102 = .ok (.iload_n 3, 1) := by decide +kernel
theorem dX4_found_103 : decode cX4_found 103 = .ok (.aload_n 0, 1) := by decide +kernel
theorem dX4_found_104 : decode cX4_found 104 = .ok (.getfield 9, 3) := by decide +kernel
theorem dX4_found_107 : decode cX4_found 107 = .ok (.sipush 128, 3) := by decide +kernel
theorem dX4_found_110 : decode cX4_found 110 = .ok (.iload_n 2, 1) := by decide +kernel
theorem dX4_found_111 : decode cX4_found 111 = .ok (.iadd, 1) := by decide +kernel
theorem dX4_found_112 : decode cX4_found 112 = .ok (.iaload, 1) := by decide +kernel
theorem dX4_found_113 : decode cX4_found 113 = .ok (.invokevirtual 256, 3) := by decide +kernel
theorem dX4_found_116 : decode cX4_found 116 = .ok (.istore 4, 2) := by decide +kernel
theorem dX4_found_118 : decode cX4_found 118 = .ok (.iload 4, 2) := by decide +kernel
theorem dX4_found_120 : decode cX4_found 120 = .ok (.ifCond .lt 16, 3) := by decide +kernel
theorem dX4_found_123 : decode cX4_found 123 = .ok (.aload_n 0, 1) := by decide +kernel
theorem dX4_found_124 : decode cX4_found 124 = .ok (.getfield 9, 3) := by decide +kernel
theorem dX4_found_127 : decode cX4_found 127 = .ok (.sipush 160, 3) := by decide +kernel
theorem dX4_found_130 : decode cX4_found 130 = .ok (.iload_n 2, 1) := by decide +kernel
theorem dX4_found_131 : decode cX4_found 131 = .ok (.iadd, 1) := by decide +kernel
theorem dX4_found_132 : decode cX4_found 132 = .ok (.iaload, 1) := by decide +kernel
theorem dX4_found_133 : decode cX4_found 133 = .ok (.ifCond .ne 6, 3) := by decide +kernel
theorem dX4_found_136 : decode cX4_found 136 = .ok (.iload 4, 2) := by decide +kernel
theorem dX4_found_138 : decode cX4_found 138 = .ok (.ireturn, 1) := by decide +kernel
theorem dX4_found_139 : decode cX4_found 139 = .ok (.aload_n 0, 1) := by decide +kernel
theorem dX4_found_140 : decode cX4_found 140 = .ok (.getfield 9, 3) := by decide +kernel
theorem dX4_found_143 : decode cX4_found 143 = .ok (.iload 4, 2) := by decide +kernel
theorem dX4_found_145 : decode cX4_found 145 = .ok (.iconst 2, 1) := by decide +kernel
theorem dX4_found_146 : decode cX4_found 146 = .ok (.invokestatic 61, 3) := by decide +kernel
theorem dX4_found_149 : decode cX4_found 149 = .ok (.ifCond .eq 22, 3) := by decide +kernel
theorem dX4_found_152 : decode cX4_found 152 = .ok (.aload_n 0, 1) := by decide +kernel
theorem dX4_found_153 : decode cX4_found 153 = .ok (.iload 4, 2) := by decide +kernel
theorem dX4_found_155 : decode cX4_found 155 = .ok (.aload_n 0, 1) := by decide +kernel
theorem dX4_found_156 : decode cX4_found 156 = .ok (.getfield 9, 3) := by decide +kernel
theorem dX4_found_159 : decode cX4_found 159 = .ok (.sipush 160, 3) := by decide +kernel
theorem dX4_found_162 : decode cX4_found 162 = .ok (.iload_n 2, 1) := by decide +kernel
theorem dX4_found_163 : decode cX4_found 163 = .ok (.iadd, 1) := by decide +kernel
theorem dX4_found_164 : decode cX4_found 164 = .ok (.iaload, 1) := by decide +kernel
theorem dX4_found_165 : decode cX4_found 165 = .ok (.invokevirtual 256, 3) := by decide +kernel
theorem dX4_found_168 : decode cX4_found 168 = .ok (.goto 5, 3) := by decide +kernel
theorem dX4_found_171 : decode cX4_found 171 = .ok (.bipush (-3), 2) := by decide +kernel
theorem dX4_found_173 : decode cX4_found 173 = .ok (.ireturn, 1) := by decide +kernel
theorem dX4_follows_0 : decode cX4_follows 0 = .ok (.aload_n 0, 1) := by decide +kernel
theorem dX4_follows_1 : decode cX4_follows 1 = .ok (.iconst 0, 1) := by decide +kernel
theorem dX4_follows_2 : decode cX4_follows 2 = .ok (.putfield 253, 3) := by decide +kernel
theorem dX4_follows_5 : decode cX4_follows 5 = .ok (.aload_n 0, 1) := by decide +kernel
theorem dX4_follows_6 : decode cX4_follows 6 = .ok (.getfield 9, 3) := by decide +kernel
theorem dX4_follows_9 : decode cX4_follows 9 = .ok (.iload_n 1, 1) := by decide +kernel
theorem dX4_follows_10 : decode cX4_follows 10 = .ok (.iconst 2, 1) := by decide +kernel
theorem dX4_follows_11 : decode cX4_follows 11 = .ok (.invokestatic 61, 3) := by decide +kernel
theorem dX4_follows_14 : decode cX4_follows 14 = .ok (.ifCond .eq 12, 3) := by decide +kernel
theorem dX4_follows_17 : decode cX4_follows 17 = .ok (.aload_n 0, 1) := by decide +kernel
theorem dX4_follows_18 : decode cX4_follows 18 = .ok (.iload_n 1, 1) := by decide +kernel
theorem dX4_follows_19 : decode cX4_follows 19 = .ok (.iload_n 2, 1) := by decide +kernel
theorem dX4_follows_20 : decode cX4_follows 20 = .ok (.invokevirtual 256, 3) := by decide +kernel
theorem dX4_follows_23 : decode cX4_follows 23 = .ok (.goto 5, 3) := by decide +kernel
theorem dX4_follows_26 : decode cX4_follows 26 = .ok (.bipush (-3), 2) := by decide +kernel
theorem dX4_follows_28 : decode cX4_follows 28 = .ok (.ireturn, 1) := by decide +kernel
theorem dX4_follow_0 : decode cX4_follow 0 = .ok (.aload_n 0, 1) := by decide +kernel
theorem dX4_follow_1 : decode cX4_follow 1 = .ok (.iload_n 1, 1) := by decide +kernel
theorem dX4_follow_2 : decode cX4_follow 2 = .ok (.iload_n 2, 1) := by decide +kernel
theorem dX4_follow_3 : decode cX4_follow 3 = .ok (.invokevirtual 166, 3) := by decide +kernel
theorem dX4_follow_6 : decode cX4_follow 6 = .ok (.ifCond .eq 7, 3) := by decide +kernel
theorem dX4_follow_9 : decode cX4_follow 9 = .ok (.iconst 0, 1) := by decide +kernel
theorem dX4_follow_10 : decode cX4_follow 10 = .ok (.goto 9, 3) := by decide +kernel
theorem dX4_follow_13 : decode cX4_follow 13 = .ok (.aload_n 0, 1) := by decide +kernel
theorem dX4_follow_14 : decode cX4_follow 14 = .ok (.iload_n 1, 1) := by decide +kernel
theorem dX4_follow_15 : decode cX4_follow 15 = .ok (.iload_n 2, 1) := by decide +kernel
theorem dX4_follow_16 : decode cX4_follow 16 = .ok (.invokevirtual 259, 3) := by decide +kernel
theorem dX4_follow_19 : decode cX4_follow 19 = .ok (.ireturn, 1) := by decide +kernel
theorem dX4_nameAt_0 : decode cX4_nameAt 0 = .ok (.aload_n 0, 1) := by decide +kernel
theorem dX4_nameAt_1 : decode cX4_nameAt 1 = .ok (.iload_n 1, 1) := by decide +kernel
theorem dX4_nameAt_2 : decode cX4_nameAt 2 = .ok (.invokevirtual 211, 3) := by decide +kernel
theorem dX4_nameAt_5 : decode cX4_nameAt 5 = .ok (.ifCond .eq 5, 3) := by decide +kernel
theorem dX4_nameAt_8 : decode cX4_nameAt 8 = .ok (.iconst 0, 1) := by decide +kernel
theorem dX4_nameAt_9 : decode cX4_nameAt 9 = .ok (.ireturn, 1) := by decide +kernel
theorem dX4_nameAt_10 : decode cX4_nameAt 10 = .ok (.aload_n 0, 1) := by decide +kernel
theorem dX4_nameAt_11 : decode cX4_nameAt 11 = .ok (.getfield 9, 3) := by decide +kernel
theorem dX4_nameAt_14 : decode cX4_nameAt 14 = .ok (.iload_n 1, 1) := by decide +kernel
theorem dX4_nameAt_15 : decode cX4_nameAt 15 = .ok (.iconst 2, 1) := by decide +kernel
theorem dX4_nameAt_16 : decode cX4_nameAt 16 = .ok (.invokestatic 61, 3) := by decide +kernel
theorem dX4_nameAt_19 : decode cX4_nameAt 19 = .ok (.ifCond .eq 39, 3) := by decide +kernel
theorem dX4_nameAt_22 : decode cX4_nameAt 22 = .ok (.iload_n 2, 1) := by decide +kernel
theorem dX4_nameAt_23 : decode cX4_nameAt 23 = .ok (.iconst 0, 1) := by decide +kernel
theorem dX4_nameAt_24 : decode cX4_nameAt 24 = .ok (.aload_n 0, 1) := by decide +kernel
theorem dX4_nameAt_25 : decode cX4_nameAt 25 = .ok (.getfield 9, 3) := by decide +kernel
theorem dX4_nameAt_28 : decode cX4_nameAt 28 = .ok (.iload_n 1, 1) := by decide +kernel
theorem dX4_nameAt_29 : decode cX4_nameAt 29 = .ok (.invokestatic 53, 3) := by decide +kernel
theorem dX4_nameAt_32 : decode cX4_nameAt 32 = .ok (.iconst 1, 1) := by decide +kernel
theorem dX4_nameAt_33 : decode cX4_nameAt 33 = .ok (.isub, 1) := by decide +kernel
theorem dX4_nameAt_34 : decode cX4_nameAt 34 = .ok (.invokestatic 49, 3) := by decide +kernel
theorem dX4_nameAt_37 : decode cX4_nameAt 37 = .ok (.ifCond .eq 21, 3) := by decide +kernel
theorem dX4_nameAt_40 : decode cX4_nameAt 40 = .ok (.aload_n 0, 1) := by decide +kernel
theorem dX4_nameAt_41 : decode cX4_nameAt 41 = .ok (.getfield 9, 3) := by decide +kernel
theorem dX4_nameAt_44 : decode cX4_nameAt 44 = .ok (.sipush 832, 3) := by decide +kernel
theorem dX4_nameAt_47 : decode cX4_nameAt 47 = .ok (.iload_n 1, 1) := by decide +kernel
theorem dX4_nameAt_48 : decode cX4_nameAt 48 = .ok (.bipush 12, 2) := by decide +kernel
theorem dX4_nameAt_50 : decode cX4_nameAt 50 = .ok (.imul, 1) := by decide +kernel
theorem dX4_nameAt_51 : decode cX4_nameAt 51 = .ok (.iadd, 1) := by decide +kernel
theorem dX4_nameAt_52 : decode cX4_nameAt 52 = .ok (.iload_n 2, 1) := by decide +kernel
theorem dX4_nameAt_53 : decode cX4_nameAt 53 = .ok (.iadd, 1) := by decide +kernel
theorem dX4_nameAt_54 : decode cX4_nameAt 54 = .ok (.iaload, 1) := by decide +kernel
theorem dX4_nameAt_55 : decode cX4_nameAt 55 = .ok (.goto 4, 3) := by decide +kernel
theorem dX4_nameAt_58 : decode cX4_nameAt 58 = .ok (.iconst (-1), 1) := by decide +kernel
theorem dX4_nameAt_59 : decode cX4_nameAt 59 = .ok (.ireturn, 1) := by decide +kernel
theorem dX4_parentTold_0 : decode cX4_parentTold 0 = .ok (.aload_n 0, 1) := by decide +kernel
theorem dX4_parentTold_1 : decode cX4_parentTold 1 = .ok (.getfield 9, 3) := by decide +kernel
theorem dX4_parentTold_4 : decode cX4_parentTold 4 = .ok (.iload_n 1, 1) := by decide +kernel
theorem dX4_parentTold_5 : decode cX4_parentTold 5 = .ok (.iconst 2, 1) := by decide +kernel
theorem dX4_parentTold_6 : decode cX4_parentTold 6 = .ok (.invokestatic 61, 3) := by decide +kernel
theorem dX4_parentTold_9 : decode cX4_parentTold 9 = .ok (.ifCond .eq 14, 3) := by decide +kernel
theorem dX4_parentTold_12 : decode cX4_parentTold 12 = .ok (.aload_n 0, 1) := by decide +kernel
theorem dX4_parentTold_13 : decode cX4_parentTold 13 = .ok (.getfield 9, 3) := by decide +kernel
theorem dX4_parentTold_16 : decode cX4_parentTold 16 = .ok (.iload_n 1, 1) := by decide +kernel
theorem dX4_parentTold_17 : decode cX4_parentTold 17 = .ok (.invokestatic 65, 3) := by decide +kernel
theorem dX4_parentTold_20 : decode cX4_parentTold 20 = .ok (.goto 4, 3) := by decide +kernel
theorem dX4_parentTold_23 : decode cX4_parentTold 23 = .ok (.iconst (-1), 1) := by decide +kernel
theorem dX4_parentTold_24 : decode cX4_parentTold 24 = .ok (.ireturn, 1) := by decide +kernel
theorem dX4_parentOf_0 : decode cX4_parentOf 0 = .ok (.aload_n 0, 1) := by decide +kernel
theorem dX4_parentOf_1 : decode cX4_parentOf 1 = .ok (.iload_n 1, 1) := by decide +kernel
theorem dX4_parentOf_2 : decode cX4_parentOf 2 = .ok (.invokevirtual 211, 3) := by decide +kernel
theorem dX4_parentOf_5 : decode cX4_parentOf 5 = .ok (.ifCond .eq 7, 3) := by decide +kernel
theorem dX4_parentOf_8 : decode cX4_parentOf 8 = .ok (.iconst 0, 1) := by decide +kernel
theorem dX4_parentOf_9 : decode cX4_parentOf 9 = .ok (.goto 8, 3) := by decide +kernel
theorem dX4_parentOf_12 : decode cX4_parentOf 12 = .ok (.aload_n 0, 1) := by decide +kernel
theorem dX4_parentOf_13 : decode cX4_parentOf 13 = .ok (.iload_n 1, 1) := by decide +kernel
theorem dX4_parentOf_14 : decode cX4_parentOf 14 = .ok (.invokevirtual 262, 3) := by decide +kernel
theorem dX4_parentOf_17 : decode cX4_parentOf 17 = .ok (.ireturn, 1) := by decide +kernel
theorem dX4_depth_0 : decode cX4_depth 0 = .ok (.aload_n 0, 1) := by decide +kernel
theorem dX4_depth_1 : decode cX4_depth 1 = .ok (.getfield 9, 3) := by decide +kernel
theorem dX4_depth_4 : decode cX4_depth 4 = .ok (.iload_n 1, 1) := by decide +kernel
theorem dX4_depth_5 : decode cX4_depth 5 = .ok (.iconst 2, 1) := by decide +kernel
theorem dX4_depth_6 : decode cX4_depth 6 = .ok (.invokestatic 61, 3) := by decide +kernel
theorem dX4_depth_9 : decode cX4_depth 9 = .ok (.ifCond .ne 5, 3) := by decide +kernel
theorem dX4_depth_12 : decode cX4_depth 12 = .ok (.iconst (-1), 1) := by decide +kernel
theorem dX4_depth_13 : decode cX4_depth 13 = .ok (.ireturn, 1) := by decide +kernel
theorem dX4_depth_14 : decode cX4_depth 14 = .ok (.iconst 0, 1) := by decide +kernel
theorem dX4_depth_15 : decode cX4_depth 15 = .ok (.istore_n 2, 1) := by decide +kernel
theorem dX4_depth_16 : decode cX4_depth 16 = .ok (.iload_n 1, 1) := by decide +kernel
theorem dX4_depth_17 : decode cX4_depth 17 = .ok (.istore_n 3, 1) := by decide +kernel
theorem dX4_depth_18 : decode cX4_depth 18 = .ok (.iload_n 3, 1) := by decide +kernel
theorem dX4_depth_19 : decode cX4_depth 19 = .ok (.ifCond .eq 18, 3) := by decide +kernel
theorem dX4_depth_22 : decode cX4_depth 22 = .ok (.iinc 2 1, 3) := by decide +kernel
theorem dX4_depth_25 : decode cX4_depth 25 = .ok (.aload_n 0, 1) := by decide +kernel
theorem dX4_depth_26 : decode cX4_depth 26 = .ok (.getfield 9, 3) := by decide +kernel
theorem dX4_depth_29 : decode cX4_depth 29 = .ok (.iload_n 3, 1) := by decide +kernel
theorem dX4_depth_30 : decode cX4_depth 30 = .ok (.invokestatic 65, 3) := by decide +kernel
theorem dX4_depth_33 : decode cX4_depth 33 = .ok (.istore_n 3, 1) := by decide +kernel
theorem dX4_depth_34 : decode cX4_depth 34 = .ok (.goto (-16), 3) := by decide +kernel
theorem dX4_depth_37 : decode cX4_depth 37 = .ok (.iload_n 2, 1) := by decide +kernel
theorem dX4_depth_38 : decode cX4_depth 38 = .ok (.ireturn, 1) := by decide +kernel
theorem dX4_depthOf_0 : decode cX4_depthOf 0 = .ok (.aload_n 0, 1) := by decide +kernel
theorem dX4_depthOf_1 : decode cX4_depthOf 1 = .ok (.iload_n 1, 1) := by decide +kernel
theorem dX4_depthOf_2 : decode cX4_depthOf 2 = .ok (.invokevirtual 211, 3) := by decide +kernel
theorem dX4_depthOf_5 : decode cX4_depthOf 5 = .ok (.ifCond .eq 7, 3) := by decide +kernel
theorem dX4_depthOf_8 : decode cX4_depthOf 8 = .ok (.iconst 0, 1) := by decide +kernel
theorem dX4_depthOf_9 : decode cX4_depthOf 9 = .ok (.goto 8, 3) := by decide +kernel
theorem dX4_depthOf_12 : decode cX4_depthOf 12 = .ok (.aload_n 0, 1) := by decide +kernel
theorem dX4_depthOf_13 : decode cX4_depthOf 13 = .ok (.iload_n 1, 1) := by decide +kernel
theorem dX4_depthOf_14 : decode cX4_depthOf 14 = .ok (.invokevirtual 265, 3) := by decide +kernel
theorem dX4_depthOf_17 : decode cX4_depthOf 17 = .ok (.ireturn, 1) := by decide +kernel
theorem dX4_isOrphan_0 : decode cX4_isOrphan 0 = .ok (.aload_n 0, 1) := by decide +kernel
theorem dX4_isOrphan_1 : decode cX4_isOrphan 1 = .ok (.iload_n 1, 1) := by decide +kernel
theorem dX4_isOrphan_2 : decode cX4_isOrphan 2 = .ok (.invokevirtual 211, 3) := by decide +kernel
theorem dX4_isOrphan_5 : decode cX4_isOrphan 5 = .ok (.ifCond .ne 22, 3) := by decide +kernel
theorem dX4_isOrphan_8 : decode cX4_isOrphan 8 = .ok (.iload_n 1, 1) := by decide +kernel
theorem dX4_isOrphan_9 : decode cX4_isOrphan 9 = .ok (.ifCond .eq 18, 3) := by decide +kernel
theorem dX4_isOrphan_12 : decode cX4_isOrphan 12 = .ok (.aload_n 0, 1) := by decide +kernel
theorem dX4_isOrphan_13 : decode cX4_isOrphan 13 = .ok (.getfield 9, 3) := by decide +kernel
theorem dX4_isOrphan_16 : decode cX4_isOrphan 16 = .ok (.iload_n 1, 1) := by decide +kernel
theorem dX4_isOrphan_17 : decode cX4_isOrphan 17 = .ok (.invokestatic 89, 3) := by decide +kernel
theorem dX4_isOrphan_20 : decode cX4_isOrphan 20 = .ok (.ifCond .ne 7, 3) := by decide +kernel
theorem dX4_isOrphan_23 : decode cX4_isOrphan 23 = .ok (.iconst 1, 1) := by decide +kernel
theorem dX4_isOrphan_24 : decode cX4_isOrphan 24 = .ok (.goto 4, 3) := by decide +kernel
theorem dX4_isOrphan_27 : decode cX4_isOrphan 27 = .ok (.iconst 0, 1) := by decide +kernel
theorem dX4_isOrphan_28 : decode cX4_isOrphan 28 = .ok (.ireturn, 1) := by decide +kernel
theorem dX4_under_0 : decode cX4_under 0 = .ok (.bipush 32, 2) := by decide +kernel
theorem dX4_under_2 : decode cX4_under 2 = .ok (.newarray .boolean, 2) := by decide +kernel
theorem dX4_under_4 : decode cX4_under 4 = .ok (.astore_n 2, 1) := by decide +kernel
theorem dX4_under_5 : decode cX4_under 5 = .ok (.aload_n 2, 1) := by decide +kernel
theorem dX4_under_6 : decode cX4_under 6 = .ok (.iload_n 1, 1) := by decide +kernel
theorem dX4_under_7 : decode cX4_under 7 = .ok (.iconst 1, 1) := by decide +kernel
theorem dX4_under_8 : decode cX4_under 8 = .ok (.bastore, 1) := by decide +kernel
theorem dX4_under_9 : decode cX4_under 9 = .ok (.iconst 1, 1) := by decide +kernel
theorem dX4_under_10 : decode cX4_under 10 = .ok (.istore_n 3, 1) := by decide +kernel
theorem dX4_under_11 : decode cX4_under 11 = .ok (.iload_n 3, 1) := by decide +kernel
theorem dX4_under_12 : decode cX4_under 12 = .ok (.ifCond .eq 133, 3) := by decide +kernel
theorem dX4_under_15 : decode cX4_under 15 = .ok (.iconst 0, 1) := by decide +kernel
theorem dX4_under_16 : decode cX4_under 16 = .ok (.istore_n 3, 1) := by decide +kernel
theorem dX4_under_17 : decode cX4_under 17 = .ok (.iconst 0, 1) := by decide +kernel
theorem dX4_under_18 : decode cX4_under 18 = .ok (.istore 4, 2) := by decide +kernel
theorem dX4_under_20 : decode cX4_under 20 = .ok (.iload 4, 2) := by decide +kernel
theorem dX4_under_22 : decode cX4_under 22 = .ok (.bipush 32, 2) := by decide +kernel
theorem dX4_under_24 : decode cX4_under 24 = .ok (.if_icmp .ge 118, 3) := by decide +kernel
theorem dX4_under_27 : decode cX4_under 27 = .ok (.aload_n 2, 1) := by decide +kernel
theorem dX4_under_28 : decode cX4_under 28 = .ok (.iload 4, 2) := by decide +kernel
theorem dX4_under_30 : decode cX4_under 30 = .ok (.baload, 1) := by decide +kernel
theorem dX4_under_31 : decode cX4_under 31 = .ok (.ifCond .eq 105, 3) := by decide +kernel
theorem dX4_under_34 : decode cX4_under 34 = .ok (.aload_n 0, 1) := by decide +kernel
theorem dX4_under_35 : decode cX4_under 35 = .ok (.getfield 9, 3) := by decide +kernel
theorem dX4_under_38 : decode cX4_under 38 = .ok (.iload 4, 2) := by decide +kernel
theorem dX4_under_40 : decode cX4_under 40 = .ok (.iconst 2, 1) := by decide +kernel
theorem dX4_under_41 : decode cX4_under 41 = .ok (.invokestatic 61, 3) := by decide +kernel
theorem dX4_under_44 : decode cX4_under 44 = .ok (.ifCond .ne 6, 3) := by decide +kernel
theorem dX4_under_47 : decode cX4_under 47 = .ok (.goto 89, 3) := by decide +kernel
theorem dX4_under_50 : decode cX4_under 50 = .ok (.iconst 0, 1) := by decide +kernel
theorem dX4_under_51 : decode cX4_under 51 = .ok (.istore 5, 2) := by decide +kernel
theorem dX4_under_53 : decode cX4_under 53 = .ok (.iload 5, 2) := by decide +kernel
theorem dX4_under_55 : decode cX4_under 55 = .ok (.bipush 12, 2) := by decide +kernel
theorem dX4_under_57 : decode cX4_under 57 = .ok (.if_icmp .ge 79, 3) := by decide +kernel
theorem dX4_under_60 : decode cX4_under 60 = .ok (.aload_n 0, 1) := by decide +kernel
theorem dX4_under_61 : decode cX4_under 61 = .ok (.getfield 9, 3) := by decide +kernel
theorem dX4_under_64 : decode cX4_under 64 = .ok (.sipush 832, 3) := by decide +kernel
theorem dX4_under_67 : decode cX4_under 67 = .ok (.iload 4, 2) := by decide +kernel
theorem dX4_under_69 : decode cX4_under 69 = .ok (.bipush 12, 2) := by decide +kernel
theorem dX4_under_71 : decode cX4_under 71 = .ok (.imul, 1) := by decide +kernel
theorem dX4_under_72 : decode cX4_under 72 = .ok (.iadd, 1) := by decide +kernel
theorem dX4_under_73 : decode cX4_under 73 = .ok (.iload 5, 2) := by decide +kernel
theorem dX4_under_75 : decode cX4_under 75 = .ok (.iadd, 1) := by decide +kernel
theorem dX4_under_76 : decode cX4_under 76 = .ok (.iaload, 1) := by decide +kernel
theorem dX4_under_77 : decode cX4_under 77 = .ok (.ifCond .le 59, 3) := by decide +kernel
theorem dX4_under_80 : decode cX4_under 80 = .ok (.iload_n 3, 1) := by decide +kernel
theorem dX4_under_81 : decode cX4_under 81 = .ok (.aload_n 2, 1) := by decide +kernel
theorem dX4_under_82 : decode cX4_under 82 = .ok (.aload_n 0, 1) := by decide +kernel
theorem dX4_under_83 : decode cX4_under 83 = .ok (.getfield 9, 3) := by decide +kernel
theorem dX4_under_86 : decode cX4_under 86 = .ok (.sipush 1216, 3) := by decide +kernel
theorem dX4_under_89 : decode cX4_under 89 = .ok (.iload 4, 2) := by decide +kernel
theorem dX4_under_91 : decode cX4_under 91 = .ok (.bipush 12, 2) := by decide +kernel
theorem dX4_under_93 : decode cX4_under 93 = .ok (.imul, 1) := by decide +kernel
theorem dX4_under_94 : decode cX4_under 94 = .ok (.iadd, 1) := by decide +kernel
theorem dX4_under_95 : decode cX4_under 95 = .ok (.iload 5, 2) := by decide +kernel
theorem dX4_under_97 : decode cX4_under 97 = .ok (.iadd, 1) := by decide +kernel
theorem dX4_under_98 : decode cX4_under 98 = .ok (.iaload, 1) := by decide +kernel
theorem dX4_under_99 : decode cX4_under 99 = .ok (.baload, 1) := by decide +kernel
theorem dX4_under_100 : decode cX4_under 100 = .ok (.ifCond .ne 7, 3) := by decide +kernel
theorem dX4_under_103 : decode cX4_under 103 = .ok (.iconst 1, 1) := by decide +kernel
theorem dX4_under_104 : decode cX4_under 104 = .ok (.goto 4, 3) := by decide +kernel
theorem dX4_under_107 : decode cX4_under 107 = .ok (.iconst 0, 1) := by decide +kernel
theorem dX4_under_108 : decode cX4_under 108 = .ok (.ior, 1) := by decide +kernel
theorem dX4_under_109 : decode cX4_under 109 = .ok (.istore_n 3, 1) := by decide +kernel
theorem dX4_under_110 : decode cX4_under 110 = .ok (.aload_n 2, 1) := by decide +kernel
theorem dX4_under_111 : decode cX4_under 111 = .ok (.aload_n 0, 1) := by decide +kernel
theorem dX4_under_112 : decode cX4_under 112 = .ok (.getfield 9, 3) := by decide +kernel
theorem dX4_under_115 : decode cX4_under 115 = .ok (.sipush 1216, 3) := by decide +kernel
theorem dX4_under_118 : decode cX4_under 118 = .ok (.iload 4, 2) := by decide +kernel
theorem dX4_under_120 : decode cX4_under 120 = .ok (.bipush 12, 2) := by decide +kernel
theorem dX4_under_122 : decode cX4_under 122 = .ok (.imul, 1) := by decide +kernel
theorem dX4_under_123 : decode cX4_under 123 = .ok (.iadd, 1) := by decide +kernel
theorem dX4_under_124 : decode cX4_under 124 = .ok (.iload 5, 2) := by decide +kernel
theorem dX4_under_126 : decode cX4_under 126 = .ok (.iadd, 1) := by decide +kernel
theorem dX4_under_127 : decode cX4_under 127 = .ok (.iaload, 1) := by decide +kernel
theorem dX4_under_128 : decode cX4_under 128 = .ok (.iconst 1, 1) := by decide +kernel
theorem dX4_under_129 : decode cX4_under 129 = .ok (.bastore, 1) := by decide +kernel
theorem dX4_under_130 : decode cX4_under 130 = .ok (.iinc 5 1, 3) := by decide +kernel
theorem dX4_under_133 : decode cX4_under 133 = .ok (.goto (-80), 3) := by decide +kernel
theorem dX4_under_136 : decode cX4_under 136 = .ok (.iinc 4 1, 3) := by decide +kernel
theorem dX4_under_139 : decode cX4_under 139 = .ok (.goto (-119), 3) := by decide +kernel
theorem dX4_under_142 : decode cX4_under 142 = .ok (.goto (-131), 3) := by decide +kernel
theorem dX4_under_145 : decode cX4_under 145 = .ok (.aload_n 2, 1) := by decide +kernel
theorem dX4_under_146 : decode cX4_under 146 = .ok (.areturn, 1) := by decide +kernel
theorem dX4_blocksIn_0 : decode cX4_blocksIn 0 = .ok (.aload_n 0, 1) := by decide +kernel
theorem dX4_blocksIn_1 : decode cX4_blocksIn 1 = .ok (.iload_n 1, 1) := by decide +kernel
theorem dX4_blocksIn_2 : decode cX4_blocksIn 2 = .ok (.invokevirtual 268, 3) := by decide +kernel
theorem dX4_blocksIn_5 : decode cX4_blocksIn 5 = .ok (.astore_n 2, 1) := by decide +kernel
theorem dX4_blocksIn_6 : decode cX4_blocksIn 6 = .ok (.aload_n 0, 1) := by decide +kernel
theorem dX4_blocksIn_7 : decode cX4_blocksIn 7 = .ok (.getfield 9, 3) := by decide +kernel
theorem dX4_blocksIn_10 : decode cX4_blocksIn 10 = .ok (.aload_n 2, 1) := by decide +kernel
theorem dX4_blocksIn_11 : decode cX4_blocksIn 11 = .ok (.invokestatic 76, 3) := by decide +kernel
theorem dX4_blocksIn_14 : decode cX4_blocksIn 14 = .ok (.istore_n 3, 1) := by decide +kernel
theorem dX4_blocksIn_15 : decode cX4_blocksIn 15 = .ok (.iconst 0, 1) := by decide +kernel
theorem dX4_blocksIn_16 : decode cX4_blocksIn 16 = .ok (.istore 4, 2) := by decide +kernel
theorem dX4_blocksIn_18 : decode cX4_blocksIn 18 = .ok (.iload 4, 2) := by decide +kernel
theorem dX4_blocksIn_20 : decode cX4_blocksIn 20 = .ok (.bipush 32, 2) := by decide +kernel
theorem dX4_blocksIn_22 : decode cX4_blocksIn 22 = .ok (.if_icmp .ge 45, 3) := by decide +kernel
theorem dX4_blocksIn_25 : decode cX4_blocksIn 25 = .ok (.iload_n 3, 1) := by decide +kernel
theorem dX4_blocksIn_26 : decode cX4_blocksIn 26 = .ok (.aload_n 2, 1) := by decide +kernel
theorem dX4_blocksIn_27 : decode cX4_blocksIn 27 = .ok (.iload 4, 2) := by decide +kernel
theorem dX4_blocksIn_29 : decode cX4_blocksIn 29 = .ok (.baload, 1) := by decide +kernel
theorem dX4_blocksIn_30 : decode cX4_blocksIn 30 = .ok (.ifCond .eq 28, 3) := by decide +kernel
theorem dX4_blocksIn_33 : decode cX4_blocksIn 33 = .ok (.aload_n 0, 1) := by decide +kernel
theorem dX4_blocksIn_34 : decode cX4_blocksIn 34 = .ok (.getfield 9, 3) := by decide +kernel
theorem dX4_blocksIn_37 : decode cX4_blocksIn 37 = .ok (.iload 4, 2) := by decide +kernel
theorem dX4_blocksIn_39 : decode cX4_blocksIn 39 = .ok (.iconst 2, 1) := by decide +kernel
theorem dX4_blocksIn_40 : decode cX4_blocksIn 40 = .ok (.invokestatic 61, 3) := by decide +kernel
theorem dX4_blocksIn_43 : decode cX4_blocksIn 43 = .ok (.ifCond .eq 15, 3) := by decide +kernel
theorem dX4_blocksIn_46 : decode cX4_blocksIn 46 = .ok (.aload_n 0, 1) := by decide +kernel
theorem dX4_blocksIn_47 : decode cX4_blocksIn 47 = .ok (.getfield 9, 3) := by decide +kernel
theorem dX4_blocksIn_50 : decode cX4_blocksIn 50 = .ok (.iload 4, 2) := by decide +kernel
theorem dX4_blocksIn_52 : decode cX4_blocksIn 52 = .ok (.invokestatic 80, 3) := by decide +kernel
theorem dX4_blocksIn_55 : decode cX4_blocksIn 55 = .ok (.goto 4, 3) := by decide +kernel
theorem dX4_blocksIn_58 : decode cX4_blocksIn 58 = .ok (.iconst 0, 1) := by decide +kernel
theorem dX4_blocksIn_59 : decode cX4_blocksIn 59 = .ok (.iadd, 1) := by decide +kernel
theorem dX4_blocksIn_60 : decode cX4_blocksIn 60 = .ok (.istore_n 3, 1) := by decide +kernel
theorem dX4_blocksIn_61 : decode cX4_blocksIn 61 = .ok (.iinc 4 1, 3) := by decide +kernel
theorem dX4_blocksIn_64 : decode cX4_blocksIn 64 = .ok (.goto (-46), 3) := by decide +kernel
theorem dX4_blocksIn_67 : decode cX4_blocksIn 67 = .ok (.iload_n 3, 1) := by decide +kernel
theorem dX4_blocksIn_68 : decode cX4_blocksIn 68 = .ok (.ireturn, 1) := by decide +kernel
theorem dX4_blocksUnder_0 : decode cX4_blocksUnder 0 = .ok (.aload_n 0, 1) := by decide +kernel
theorem dX4_blocksUnder_1 : decode cX4_blocksUnder 1 = .ok (.iload_n 1, 1) := by decide +kernel
theorem dX4_blocksUnder_2 : decode cX4_blocksUnder 2 = .ok (.invokevirtual 211, 3) := by decide +kernel
theorem dX4_blocksUnder_5 : decode cX4_blocksUnder 5 = .ok (.ifCond .eq 7, 3) := by decide +kernel
theorem dX4_blocksUnder_8 : decode cX4_blocksUnder 8 = .ok (.iconst 0, 1) := by decide +kernel
theorem dX4_blocksUnder_9 : decode cX4_blocksUnder 9 = .ok (.goto 8, 3) := by decide +kernel
theorem dX4_blocksUnder_12 : decode cX4_blocksUnder 12 = .ok (.aload_n 0, 1) := by decide +kernel
theorem dX4_blocksUnder_13 : decode cX4_blocksUnder 13 = .ok (.iload_n 1, 1) := by decide +kernel
theorem dX4_blocksUnder_14 : decode cX4_blocksUnder 14 = .ok (.invokevirtual 272, 3) := by decide +kernel
theorem dX4_blocksUnder_17 : decode cX4_blocksUnder 17 = .ok (.ireturn, 1) := by decide +kernel
theorem dX4_freed_0 : decode cX4_freed 0 = .ok (.aload_n 0, 1) := by decide +kernel
theorem dX4_freed_1 : decode cX4_freed 1 = .ok (.iload_n 1, 1) := by decide +kernel
theorem dX4_freed_2 : decode cX4_freed 2 = .ok (.invokevirtual 268, 3) := by decide +kernel
theorem dX4_freed_5 : decode cX4_freed 5 = .ok (.astore_n 2, 1) := by decide +kernel
theorem dX4_freed_6 : decode cX4_freed 6 = .ok (.bipush 32, 2) := by decide +kernel
theorem dX4_freed_8 : decode cX4_freed 8 = .ok (.newarray .boolean, 2) := by decide +kernel
theorem dX4_freed_10 : decode cX4_freed 10 = .ok (.astore_n 3, 1) := by decide +kernel
theorem dX4_freed_11 : decode cX4_freed 11 = .ok (.iconst 0, 1) := by decide +kernel
theorem dX4_freed_12 : decode cX4_freed 12 = .ok (.istore 4, 2) := by decide +kernel
theorem dX4_freed_14 : decode cX4_freed 14 = .ok (.iload 4, 2) := by decide +kernel
theorem dX4_freed_16 : decode cX4_freed 16 = .ok (.bipush 32, 2) := by decide +kernel
theorem dX4_freed_18 : decode cX4_freed 18 = .ok (.if_icmp .ge 25, 3) := by decide +kernel
theorem dX4_freed_21 : decode cX4_freed 21 = .ok (.aload_n 3, 1) := by decide +kernel
theorem dX4_freed_22 : decode cX4_freed 22 = .ok (.iload 4, 2) := by decide +kernel
theorem dX4_freed_24 : decode cX4_freed 24 = .ok (.aload_n 2, 1) := by decide +kernel
theorem dX4_freed_25 : decode cX4_freed 25 = .ok (.iload 4, 2) := by decide +kernel
theorem dX4_freed_27 : decode cX4_freed 27 = .ok (.baload, 1) := by decide +kernel
theorem dX4_freed_28 : decode cX4_freed 28 = .ok (.ifCond .ne 7, 3) := by decide +kernel
theorem dX4_freed_31 : decode cX4_freed 31 = .ok (.iconst 1, 1) := by decide +kernel
theorem dX4_freed_32 : decode cX4_freed 32 = .ok (.goto 4, 3) := by decide +kernel
theorem dX4_freed_35 : decode cX4_freed 35 = .ok (.iconst 0, 1) := by decide +kernel
theorem dX4_freed_36 : decode cX4_freed 36 = .ok (.bastore, 1) := by decide +kernel
theorem dX4_freed_37 : decode cX4_freed 37 = .ok (.iinc 4 1, 3) := by decide +kernel
theorem dX4_freed_40 : decode cX4_freed 40 = .ok (.goto (-26), 3) := by decide +kernel
theorem dX4_freed_43 : decode cX4_freed 43 = .ok (.aload_n 0, 1) := by decide +kernel
theorem dX4_freed_44 : decode cX4_freed 44 = .ok (.getfield 9, 3) := by decide +kernel
theorem dX4_freed_47 : decode cX4_freed 47 = .ok (.aload_n 3, 1) := by decide +kernel
theorem dX4_freed_48 : decode cX4_freed 48 = .ok (.invokestatic 76, 3) := by decide +kernel
theorem dX4_freed_51 : decode cX4_freed 51 = .ok (.istore 4, 2) := by decide +kernel
theorem dX4_freed_53 : decode cX4_freed 53 = .ok (.iconst 0, 1) := by decide +kernel
theorem dX4_freed_54 : decode cX4_freed 54 = .ok (.istore 5, 2) := by decide +kernel
theorem dX4_freed_56 : decode cX4_freed 56 = .ok (.iload 5, 2) := by decide +kernel
theorem dX4_freed_58 : decode cX4_freed 58 = .ok (.bipush 32, 2) := by decide +kernel
theorem dX4_freed_60 : decode cX4_freed 60 = .ok (.if_icmp .ge 100, 3) := by decide +kernel
theorem dX4_freed_63 : decode cX4_freed 63 = .ok (.aload_n 2, 1) := by decide +kernel
theorem dX4_freed_64 : decode cX4_freed 64 = .ok (.iload 5, 2) := by decide +kernel
theorem dX4_freed_66 : decode cX4_freed 66 = .ok (.baload, 1) := by decide +kernel
theorem dX4_freed_67 : decode cX4_freed 67 = .ok (.ifCond .ne 87, 3) := by decide +kernel
theorem dX4_freed_70 : decode cX4_freed 70 = .ok (.aload_n 0, 1) := by decide +kernel
theorem dX4_freed_71 : decode cX4_freed 71 = .ok (.getfield 9, 3) := by decide +kernel
theorem dX4_freed_74 : decode cX4_freed 74 = .ok (.iload 5, 2) := by decide +kernel
theorem dX4_freed_76 : decode cX4_freed 76 = .ok (.iconst 2, 1) := by decide +kernel
theorem dX4_freed_77 : decode cX4_freed 77 = .ok (.invokestatic 61, 3) := by decide +kernel
theorem dX4_freed_80 : decode cX4_freed 80 = .ok (.ifCond .ne 6, 3) := by decide +kernel
theorem dX4_freed_83 : decode cX4_freed 83 = .ok (.goto 71, 3) := by decide +kernel
theorem dX4_freed_86 : decode cX4_freed 86 = .ok (.iconst 0, 1) := by decide +kernel
theorem dX4_freed_87 : decode cX4_freed 87 = .ok (.istore 6, 2) := by decide +kernel
theorem dX4_freed_89 : decode cX4_freed 89 = .ok (.iconst 0, 1) := by decide +kernel
theorem dX4_freed_90 : decode cX4_freed 90 = .ok (.istore 7, 2) := by decide +kernel
theorem dX4_freed_92 : decode cX4_freed 92 = .ok (.iload 7, 2) := by decide +kernel
theorem dX4_freed_94 : decode cX4_freed 94 = .ok (.aload_n 0, 1) := by decide +kernel
theorem dX4_freed_95 : decode cX4_freed 95 = .ok (.getfield 9, 3) := by decide +kernel
theorem dX4_freed_98 : decode cX4_freed 98 = .ok (.iload 5, 2) := by decide +kernel
theorem dX4_freed_100 : decode cX4_freed 100 = .ok (.invokestatic 53, 3) := by decide +kernel
theorem dX4_freed_103 : decode cX4_freed 103 = .ok (.if_icmp .ge 41, 3) := by decide +kernel
theorem dX4_freed_106 : decode cX4_freed 106 = .ok (.iload 6, 2) := by decide +kernel
theorem dX4_freed_108 : decode cX4_freed 108 = .ok (.aload_n 2, 1) := by decide +kernel
theorem dX4_freed_109 : decode cX4_freed 109 = .ok (.aload_n 0, 1) := by decide +kernel
theorem dX4_freed_110 : decode cX4_freed 110 = .ok (.getfield 9, 3) := by decide +kernel
theorem dX4_freed_113 : decode cX4_freed 113 = .ok (.sipush 1216, 3) := by decide +kernel
theorem dX4_freed_116 : decode cX4_freed 116 = .ok (.iload 5, 2) := by decide +kernel
theorem dX4_freed_118 : decode cX4_freed 118 = .ok (.bipush 12, 2) := by decide +kernel
theorem dX4_freed_120 : decode cX4_freed 120 = .ok (.imul, 1) := by decide +kernel
theorem dX4_freed_121 : decode cX4_freed 121 = .ok (.iadd, 1) := by decide +kernel
theorem dX4_freed_122 : decode cX4_freed 122 = .ok (.iload 7, 2) := by decide +kernel
theorem dX4_freed_124 : decode cX4_freed 124 = .ok (.iadd, 1) := by decide +kernel
theorem dX4_freed_125 : decode cX4_freed 125 = .ok (.iaload, 1) := by decide +kernel
theorem dX4_freed_126 : decode cX4_freed 126 = .ok (.baload, 1) := by decide +kernel
theorem dX4_freed_127 : decode cX4_freed 127 = .ok (.ifCond .eq 7, 3) := by decide +kernel
theorem dX4_freed_130 : decode cX4_freed 130 = .ok (.iconst 0, 1) := by decide +kernel
theorem dX4_freed_131 : decode cX4_freed 131 = .ok (.goto 4, 3) := by decide +kernel
theorem dX4_freed_134 : decode cX4_freed 134 = .ok (.iconst 1, 1) := by decide +kernel
theorem dX4_freed_135 : decode cX4_freed 135 = .ok (.iadd, 1) := by decide +kernel
theorem dX4_freed_136 : decode cX4_freed 136 = .ok (.istore 6, 2) := by decide +kernel
theorem dX4_freed_138 : decode cX4_freed 138 = .ok (.iinc 7 1, 3) := by decide +kernel
theorem dX4_freed_141 : decode cX4_freed 141 = .ok (.goto (-49), 3) := by decide +kernel
theorem dX4_freed_144 : decode cX4_freed 144 = .ok (.iload 4, 2) := by decide +kernel
theorem dX4_freed_146 : decode cX4_freed 146 = .ok (.iload 6, 2) := by decide +kernel
theorem dX4_freed_148 : decode cX4_freed 148 = .ok (.invokestatic 68, 3) := by decide +kernel
theorem dX4_freed_151 : decode cX4_freed 151 = .ok (.iadd, 1) := by decide +kernel
theorem dX4_freed_152 : decode cX4_freed 152 = .ok (.istore 4, 2) := by decide +kernel
theorem dX4_freed_154 : decode cX4_freed 154 = .ok (.iinc 5 1, 3) := by decide +kernel
theorem dX4_freed_157 : decode cX4_freed 157 = .ok (.goto (-101), 3) := by decide +kernel
theorem dX4_freed_160 : decode cX4_freed 160 = .ok (.aload_n 0, 1) := by decide +kernel
theorem dX4_freed_161 : decode cX4_freed 161 = .ok (.getfield 9, 3) := by decide +kernel
theorem dX4_freed_164 : decode cX4_freed 164 = .ok (.invokestatic 99, 3) := by decide +kernel
theorem dX4_freed_167 : decode cX4_freed 167 = .ok (.iload 4, 2) := by decide +kernel
theorem dX4_freed_169 : decode cX4_freed 169 = .ok (.isub, 1) := by decide +kernel
theorem dX4_freed_170 : decode cX4_freed 170 = .ok (.ireturn, 1) := by decide +kernel
theorem dX4_wouldFree_0 : decode cX4_wouldFree 0 = .ok (.aload_n 0, 1) := by decide +kernel
theorem dX4_wouldFree_1 : decode cX4_wouldFree 1 = .ok (.iload_n 1, 1) := by decide +kernel
theorem dX4_wouldFree_2 : decode cX4_wouldFree 2 = .ok (.invokevirtual 211, 3) := by decide +kernel
theorem dX4_wouldFree_5 : decode cX4_wouldFree 5 = .ok (.ifCond .eq 7, 3) := by decide +kernel
theorem dX4_wouldFree_8 : decode cX4_wouldFree 8 = .ok (.iconst 0, 1) := by decide +kernel
theorem dX4_wouldFree_9 : decode cX4_wouldFree 9 = .ok (.goto 8, 3) := by decide +kernel
theorem dX4_wouldFree_12 : decode cX4_wouldFree 12 = .ok (.aload_n 0, 1) := by decide +kernel
theorem dX4_wouldFree_13 : decode cX4_wouldFree 13 = .ok (.iload_n 1, 1) := by decide +kernel
theorem dX4_wouldFree_14 : decode cX4_wouldFree 14 = .ok (.invokevirtual 275, 3) := by decide +kernel
theorem dX4_wouldFree_17 : decode cX4_wouldFree 17 = .ok (.ireturn, 1) := by decide +kernel
theorem dX4_used__0 : decode cX4_used_ 0 = .ok (.aload_n 0, 1) := by decide +kernel
theorem dX4_used__1 : decode cX4_used_ 1 = .ok (.invokevirtual 129, 3) := by decide +kernel
theorem dX4_used__4 : decode cX4_used_ 4 = .ok (.ifCond .eq 7, 3) := by decide +kernel
theorem dX4_used__7 : decode cX4_used_ 7 = .ok (.iconst 0, 1) := by decide +kernel
theorem dX4_used__8 : decode cX4_used_ 8 = .ok (.goto 10, 3) := by decide +kernel
theorem dX4_used__11 : decode cX4_used_ 11 = .ok (.aload_n 0, 1) := by decide +kernel
theorem dX4_used__12 : decode cX4_used_ 12 = .ok (.getfield 9, 3) := by decide +kernel
theorem dX4_used__15 : decode cX4_used_ 15 = .ok (.invokestatic 99, 3) := by decide +kernel
theorem dX4_used__18 : decode cX4_used_ 18 = .ok (.ireturn, 1) := by decide +kernel
theorem dX4_usedBy__0 : decode cX4_usedBy_ 0 = .ok (.aload_n 0, 1) := by decide +kernel
theorem dX4_usedBy__1 : decode cX4_usedBy_ 1 = .ok (.iload_n 1, 1) := by decide +kernel
theorem dX4_usedBy__2 : decode cX4_usedBy_ 2 = .ok (.invokevirtual 208, 3) := by decide +kernel
theorem dX4_usedBy__5 : decode cX4_usedBy_ 5 = .ok (.ifCond .eq 7, 3) := by decide +kernel
theorem dX4_usedBy__8 : decode cX4_usedBy_ 8 = .ok (.iconst 0, 1) := by decide +kernel
theorem dX4_usedBy__9 : decode cX4_usedBy_ 9 = .ok (.goto 11, 3) := by decide +kernel
theorem dX4_usedBy__12 : decode cX4_usedBy_ 12 = .ok (.aload_n 0, 1) := by decide +kernel
theorem dX4_usedBy__13 : decode cX4_usedBy_ 13 = .ok (.getfield 9, 3) := by decide +kernel
theorem dX4_usedBy__16 : decode cX4_usedBy_ 16 = .ok (.iload_n 1, 1) := by decide +kernel
theorem dX4_usedBy__17 : decode cX4_usedBy_ 17 = .ok (.invokestatic 103, 3) := by decide +kernel
theorem dX4_usedBy__20 : decode cX4_usedBy_ 20 = .ok (.ireturn, 1) := by decide +kernel
theorem dX4_quotaOf_0 : decode cX4_quotaOf 0 = .ok (.aload_n 0, 1) := by decide +kernel
theorem dX4_quotaOf_1 : decode cX4_quotaOf 1 = .ok (.iload_n 1, 1) := by decide +kernel
theorem dX4_quotaOf_2 : decode cX4_quotaOf 2 = .ok (.invokevirtual 208, 3) := by decide +kernel
theorem dX4_quotaOf_5 : decode cX4_quotaOf 5 = .ok (.ifCond .eq 7, 3) := by decide +kernel
theorem dX4_quotaOf_8 : decode cX4_quotaOf 8 = .ok (.iconst 0, 1) := by decide +kernel
theorem dX4_quotaOf_9 : decode cX4_quotaOf 9 = .ok (.goto 13, 3) := by decide +kernel
theorem dX4_quotaOf_12 : decode cX4_quotaOf 12 = .ok (.aload_n 0, 1) := by decide +kernel
theorem dX4_quotaOf_13 : decode cX4_quotaOf 13 = .ok (.getfield 9, 3) := by decide +kernel
theorem dX4_quotaOf_16 : decode cX4_quotaOf 16 = .ok (.sipush 1600, 3) := by decide +kernel
theorem dX4_quotaOf_19 : decode cX4_quotaOf 19 = .ok (.iload_n 1, 1) := by decide +kernel
theorem dX4_quotaOf_20 : decode cX4_quotaOf 20 = .ok (.iadd, 1) := by decide +kernel
theorem dX4_quotaOf_21 : decode cX4_quotaOf 21 = .ok (.iaload, 1) := by decide +kernel
theorem dX4_quotaOf_22 : decode cX4_quotaOf 22 = .ok (.ireturn, 1) := by decide +kernel
theorem dX4_greatest_0 : decode cX4_greatest 0 = .ok (.iconst (-1), 1) := by decide +kernel
theorem dX4_greatest_1 : decode cX4_greatest 1 = .ok (.istore_n 1, 1) := by decide +kernel
theorem dX4_greatest_2 : decode cX4_greatest 2 = .ok (.iconst 0, 1) := by decide +kernel
theorem dX4_greatest_3 : decode cX4_greatest 3 = .ok (.istore_n 2, 1) := by decide +kernel
theorem dX4_greatest_4 : decode cX4_greatest 4 = .ok (.iload_n 2, 1) := by decide +kernel
theorem dX4_greatest_5 : decode cX4_greatest 5 = .ok (.bipush 32, 2) := by decide +kernel
theorem dX4_greatest_7 : decode cX4_greatest 7 = .ok (.if_icmp .ge 46, 3) := by decide +kernel
theorem dX4_greatest_10 : decode cX4_greatest 10 = .ok (.aload_n 0, 1) := by decide +kernel
theorem dX4_greatest_11 : decode cX4_greatest 11 = .ok (.getfield 9, 3) := by decide +kernel
theorem dX4_greatest_14 : decode cX4_greatest 14 = .ok (.iload_n 2, 1) := by decide +kernel
theorem dX4_greatest_15 : decode cX4_greatest 15 = .ok (.iconst 1, 1) := by decide +kernel
theorem dX4_greatest_16 : decode cX4_greatest 16 = .ok (.invokestatic 61, 3) := by decide +kernel
theorem dX4_greatest_19 : decode cX4_greatest 19 = .ok (.ifCond .eq 28, 3) := by decide +kernel
theorem dX4_greatest_22 : decode cX4_greatest 22 = .ok (.iload_n 1, 1) := by decide +kernel
theorem dX4_greatest_23 : decode cX4_greatest 23 = .ok (.ifCond .lt 22, 3) := by decide +kernel
theorem dX4_greatest_26 : decode cX4_greatest 26 = .ok (.aload_n 0, 1) := by decide +kernel
theorem dX4_greatest_27 : decode cX4_greatest 27 = .ok (.getfield 9, 3) := by decide +kernel
theorem dX4_greatest_30 : decode cX4_greatest 30 = .ok (.iload_n 2, 1) := by decide +kernel
theorem dX4_greatest_31 : decode cX4_greatest 31 = .ok (.invokestatic 80, 3) := by decide +kernel
theorem dX4_greatest_34 : decode cX4_greatest 34 = .ok (.aload_n 0, 1) := by decide +kernel
theorem dX4_greatest_35 : decode cX4_greatest 35 = .ok (.getfield 9, 3) := by decide +kernel
theorem dX4_greatest_38 : decode cX4_greatest 38 = .ok (.iload_n 1, 1) := by decide +kernel
theorem dX4_greatest_39 : decode cX4_greatest 39 = .ok (.invokestatic 80, 3) := by decide +kernel
theorem dX4_greatest_42 : decode cX4_greatest 42 = .ok (.if_icmp .le 5, 3) := by decide +kernel
theorem dX4_greatest_45 : decode cX4_greatest 45 = .ok (.iload_n 2, 1) := by decide +kernel
theorem dX4_greatest_46 : decode cX4_greatest 46 = .ok (.istore_n 1, 1) := by decide +kernel
theorem dX4_greatest_47 : decode cX4_greatest 47 = .ok (.iinc 2 1, 3) := by decide +kernel
theorem dX4_greatest_50 : decode cX4_greatest 50 = .ok (.goto (-46), 3) := by decide +kernel
theorem dX4_greatest_53 : decode cX4_greatest 53 = .ok (.iload_n 1, 1) := by decide +kernel
theorem dX4_greatest_54 : decode cX4_greatest 54 = .ok (.ireturn, 1) := by decide +kernel
theorem dX4_greatestFile_0 : decode cX4_greatestFile 0 = .ok (.aload_n 0, 1) := by decide +kernel
theorem dX4_greatestFile_1 : decode cX4_greatestFile 1 = .ok (.invokevirtual 129, 3) := by decide +kernel
theorem dX4_greatestFile_4 : decode cX4_greatestFile 4 = .ok (.ifCond .eq 7, 3) := by decide +kernel
theorem dX4_greatestFile_7 : decode cX4_greatestFile 7 = .ok (.iconst 0, 1) := by decide +kernel
theorem dX4_greatestFile_8 : decode cX4_greatestFile 8 = .ok (.goto 7, 3) := by decide +kernel
theorem dX4_greatestFile_11 : decode cX4_greatestFile 11 = .ok (.aload_n 0, 1) := by decide +kernel
theorem dX4_greatestFile_12 : decode cX4_greatestFile 12 = .ok (.invokevirtual 278, 3) := by decide +kernel
theorem dX4_greatestFile_15 : decode cX4_greatestFile 15 = .ok (.ireturn, 1) := by decide +kernel
theorem dX4_meanSize_0 : decode cX4_meanSize 0 = .ok (.aload_n 0, 1) := by decide +kernel
theorem dX4_meanSize_1 : decode cX4_meanSize 1 = .ok (.invokevirtual 129, 3) := by decide +kernel
theorem dX4_meanSize_4 : decode cX4_meanSize 4 = .ok (.ifCond .eq 5, 3) := by decide +kernel
theorem dX4_meanSize_7 : decode cX4_meanSize 7 = .ok (.dconst 0, 1) := by decide +kernel
theorem dX4_meanSize_8 : decode cX4_meanSize 8 = .ok (.dreturn, 1) := by decide +kernel
theorem dX4_meanSize_9 : decode cX4_meanSize 9 = .ok (.iconst 0, 1) := by decide +kernel
theorem dX4_meanSize_10 : decode cX4_meanSize 10 = .ok (.istore_n 1, 1) := by decide +kernel
theorem dX4_meanSize_11 : decode cX4_meanSize 11 = .ok (.iconst 0, 1) := by decide +kernel
theorem dX4_meanSize_12 : decode cX4_meanSize 12 = .ok (.istore_n 2, 1) := by decide +kernel
theorem dX4_meanSize_13 : decode cX4_meanSize 13 = .ok (.iconst 0, 1) := by decide +kernel
theorem dX4_meanSize_14 : decode cX4_meanSize 14 = .ok (.istore_n 3, 1) := by decide +kernel
theorem dX4_meanSize_15 : decode cX4_meanSize 15 = .ok (.iload_n 3, 1) := by decide +kernel
theorem dX4_meanSize_16 : decode cX4_meanSize 16 = .ok (.bipush 32, 2) := by decide +kernel
theorem dX4_meanSize_18 : decode cX4_meanSize 18 = .ok (.if_icmp .ge 57, 3) := by decide +kernel
theorem dX4_meanSize_21 : decode cX4_meanSize 21 = .ok (.iload_n 1, 1) := by decide +kernel
theorem dX4_meanSize_22 : decode cX4_meanSize 22 = .ok (.aload_n 0, 1) := by decide +kernel
theorem dX4_meanSize_23 : decode cX4_meanSize 23 = .ok (.getfield 9, 3) := by decide +kernel
theorem dX4_meanSize_26 : decode cX4_meanSize 26 = .ok (.iload_n 3, 1) := by decide +kernel
theorem dX4_meanSize_27 : decode cX4_meanSize 27 = .ok (.iconst 1, 1) := by decide +kernel
theorem dX4_meanSize_28 : decode cX4_meanSize 28 = .ok (.invokestatic 61, 3) := by decide +kernel
theorem dX4_meanSize_31 : decode cX4_meanSize 31 = .ok (.ifCond .eq 7, 3) := by decide +kernel
theorem dX4_meanSize_34 : decode cX4_meanSize 34 = .ok (.iconst 1, 1) := by decide +kernel
theorem dX4_meanSize_35 : decode cX4_meanSize 35 = .ok (.goto 4, 3) := by decide +kernel
theorem dX4_meanSize_38 : decode cX4_meanSize 38 = .ok (.iconst 0, 1) := by decide +kernel
theorem dX4_meanSize_39 : decode cX4_meanSize 39 = .ok (.iadd, 1) := by decide +kernel
theorem dX4_meanSize_40 : decode cX4_meanSize 40 = .ok (.istore_n 1, 1) := by decide +kernel
theorem dX4_meanSize_41 : decode cX4_meanSize 41 = .ok (.iload_n 2, 1) := by decide +kernel
theorem dX4_meanSize_42 : decode cX4_meanSize 42 = .ok (.aload_n 0, 1) := by decide +kernel
theorem dX4_meanSize_43 : decode cX4_meanSize 43 = .ok (.getfield 9, 3) := by decide +kernel
theorem dX4_meanSize_46 : decode cX4_meanSize 46 = .ok (.iload_n 3, 1) := by decide +kernel
theorem dX4_meanSize_47 : decode cX4_meanSize 47 = .ok (.iconst 1, 1) := by decide +kernel
theorem dX4_meanSize_48 : decode cX4_meanSize 48 = .ok (.invokestatic 61, 3) := by decide +kernel
theorem dX4_meanSize_51 : decode cX4_meanSize 51 = .ok (.ifCond .eq 15, 3) := by decide +kernel
theorem dX4_meanSize_54 : decode cX4_meanSize 54 = .ok (.aload_n 0, 1) := by decide +kernel
theorem dX4_meanSize_55 : decode cX4_meanSize 55 = .ok (.getfield 9, 3) := by decide +kernel
theorem dX4_meanSize_58 : decode cX4_meanSize 58 = .ok (.bipush 64, 2) := by decide +kernel
theorem dX4_meanSize_60 : decode cX4_meanSize 60 = .ok (.iload_n 3, 1) := by decide +kernel
theorem dX4_meanSize_61 : decode cX4_meanSize 61 = .ok (.iadd, 1) := by decide +kernel
theorem dX4_meanSize_62 : decode cX4_meanSize 62 = .ok (.iaload, 1) := by decide +kernel
theorem dX4_meanSize_63 : decode cX4_meanSize 63 = .ok (.goto 4, 3) := by decide +kernel
theorem dX4_meanSize_66 : decode cX4_meanSize 66 = .ok (.iconst 0, 1) := by decide +kernel
theorem dX4_meanSize_67 : decode cX4_meanSize 67 = .ok (.iadd, 1) := by decide +kernel
theorem dX4_meanSize_68 : decode cX4_meanSize 68 = .ok (.istore_n 2, 1) := by decide +kernel
theorem dX4_meanSize_69 : decode cX4_meanSize 69 = .ok (.iinc 3 1, 3) := by decide +kernel
theorem dX4_meanSize_72 : decode cX4_meanSize 72 = .ok (.goto (-57), 3) := by decide +kernel
theorem dX4_meanSize_75 : decode cX4_meanSize 75 = .ok (.iload_n 1, 1) := by decide +kernel
theorem dX4_meanSize_76 : decode cX4_meanSize 76 = .ok (.ifCond .ne 7, 3) := by decide +kernel
theorem dX4_meanSize_79 : decode cX4_meanSize 79 = .ok (.dconst 0, 1) := by decide +kernel
theorem dX4_meanSize_80 : decode cX4_meanSize 80 = .ok (.goto 8, 3) := by decide +kernel
theorem dX4_meanSize_83 : decode cX4_meanSize 83 = .ok (.iload_n 2, 1) := by decide +kernel
theorem dX4_meanSize_84 : decode cX4_meanSize 84 = .ok (.i2d, 1) := by decide +kernel
theorem dX4_meanSize_85 : decode cX4_meanSize 85 = .ok (.iload_n 1, 1) := by decide +kernel
theorem dX4_meanSize_86 : decode cX4_meanSize 86 = .ok (.i2d, 1) := by decide +kernel
theorem dX4_meanSize_87 : decode cX4_meanSize 87 = .ok (.ddiv, 1) := by decide +kernel
theorem dX4_meanSize_88 : decode cX4_meanSize 88 = .ok (.dreturn, 1) := by decide +kernel
theorem dX4_flaws_0 : decode cX4_flaws 0 = .ok (.aload_n 0, 1) := by decide +kernel
theorem dX4_flaws_1 : decode cX4_flaws 1 = .ok (.invokevirtual 129, 3) := by decide +kernel
theorem dX4_flaws_4 : decode cX4_flaws 4 = .ok (.pop, 1) := by decide +kernel
theorem dX4_flaws_5 : decode cX4_flaws 5 = .ok (.iconst 0, 1) := by decide +kernel
theorem dX4_flaws_6 : decode cX4_flaws 6 = .ok (.ireturn, 1) := by decide +kernel
theorem dX4_add_0 : decode cX4_add 0 = .ok (.aload_n 0, 1) := by decide +kernel
theorem dX4_add_1 : decode cX4_add 1 = .ok (.aload_n 0, 1) := by decide +kernel
theorem dX4_add_2 : decode cX4_add 2 = .ok (.getfield 281, 3) := by decide +kernel
theorem dX4_add_5 : decode cX4_add 5 = .ok (.ldc2_w 285, 3) := by decide +kernel
theorem dX4_add_8 : decode cX4_add 8 = .ok (.lmul, 1) := by decide +kernel
theorem dX4_add_9 : decode cX4_add 9 = .ok (.lload_n 1, 1) := by decide +kernel
theorem dX4_add_10 : decode cX4_add 10 = .ok (.ladd, 1) := by decide +kernel
theorem dX4_add_11 : decode cX4_add 11 = .ok (.putfield 281, 3) := by decide +kernel
theorem dX4_add_14 : decode cX4_add 14 = .ok (.return_, 1) := by decide +kernel
theorem dX4_addNode_0 : decode cX4_addNode 0 = .ok (.bipush 11, 2) := by decide +kernel
theorem dX4_addNode_2 : decode cX4_addNode 2 = .ok (.newarray .int, 2) := by decide +kernel
theorem dX4_addNode_4 : decode cX4_addNode 4 = .ok (.dup, 1) := by decide +kernel
theorem dX4_addNode_5 : decode cX4_addNode 5 = .ok (.iconst 0, 1) := by decide +kernel
theorem dX4_addNode_6 : decode cX4_addNode 6 = .ok (.iload_n 1, 1) := by decide +kernel
theorem dX4_addNode_7 : decode cX4_addNode 7 = .ok (.iastore, 1) := by decide +kernel
theorem dX4_addNode_8 : decode cX4_addNode 8 = .ok (.dup, 1) := by decide +kernel
theorem dX4_addNode_9 : decode cX4_addNode 9 = .ok (.iconst 1, 1) := by decide +kernel
theorem dX4_addNode_10 : decode cX4_addNode 10 = .ok (.aload_n 0, 1) := by decide +kernel
theorem dX4_addNode_11 : decode cX4_addNode 11 = .ok (.getfield 9, 3) := by decide +kernel
theorem dX4_addNode_14 : decode cX4_addNode 14 = .ok (.iconst 0, 1) := by decide +kernel
theorem dX4_addNode_15 : decode cX4_addNode 15 = .ok (.iload_n 1, 1) := by decide +kernel
theorem dX4_addNode_16 : decode cX4_addNode 16 = .ok (.iadd, 1) := by decide +kernel
theorem dX4_addNode_17 : decode cX4_addNode 17 = .ok (.iaload, 1) := by decide +kernel
theorem dX4_addNode_18 : decode cX4_addNode 18 = .ok (.iastore, 1) := by decide +kernel
theorem dX4_addNode_19 : decode cX4_addNode 19 = .ok (.dup, 1) := by decide +kernel
theorem dX4_addNode_20 : decode cX4_addNode 20 = .ok (.iconst 2, 1) := by decide +kernel
theorem dX4_addNode_21 : decode cX4_addNode 21 = .ok (.aload_n 0, 1) := by decide +kernel
theorem dX4_addNode_22 : decode cX4_addNode 22 = .ok (.getfield 9, 3) := by decide +kernel
theorem dX4_addNode_25 : decode cX4_addNode 25 = .ok (.iload_n 1, 1) := by decide +kernel
theorem dX4_addNode_26 : decode cX4_addNode 26 = .ok (.invokestatic 89, 3) := by decide +kernel
theorem dX4_addNode_29 : decode cX4_addNode 29 = .ok (.iastore, 1) := by decide +kernel
theorem dX4_addNode_30 : decode cX4_addNode 30 = .ok (.dup, 1) := by decide +kernel
theorem dX4_addNode_31 : decode cX4_addNode 31 = .ok (.iconst 3, 1) := by decide +kernel
theorem dX4_addNode_32 : decode cX4_addNode 32 = .ok (.aload_n 0, 1) := by decide +kernel
theorem dX4_addNode_33 : decode cX4_addNode 33 = .ok (.getfield 9, 3) := by decide +kernel
theorem dX4_addNode_36 : decode cX4_addNode 36 = .ok (.bipush 32, 2) := by decide +kernel
theorem dX4_addNode_38 : decode cX4_addNode 38 = .ok (.iload_n 1, 1) := by decide +kernel
theorem dX4_addNode_39 : decode cX4_addNode 39 = .ok (.iadd, 1) := by decide +kernel
theorem dX4_addNode_40 : decode cX4_addNode 40 = .ok (.iaload, 1) := by decide +kernel
theorem dX4_addNode_41 : decode cX4_addNode 41 = .ok (.iastore, 1) := by decide +kernel
theorem dX4_addNode_42 : decode cX4_addNode 42 = .ok (.dup, 1) := by decide +kernel
theorem dX4_addNode_43 : decode cX4_addNode 43 = .ok (.iconst 4, 1) := by decide +kernel
theorem dX4_addNode_44 : decode cX4_addNode 44 = .ok (.aload_n 0, 1) := by decide +kernel
theorem dX4_addNode_45 : decode cX4_addNode 45 = .ok (.iload_n 1, 1) := by decide +kernel
theorem dX4_addNode_46 : decode cX4_addNode 46 = .ok (.invokevirtual 240, 3) := by decide +kernel
theorem dX4_addNode_49 : decode cX4_addNode 49 = .ok (.iastore, 1) := by decide +kernel
theorem dX4_addNode_50 : decode cX4_addNode 50 = .ok (.dup, 1) := by decide +kernel
theorem dX4_addNode_51 : decode cX4_addNode 51 = .ok (.iconst 5, 1) := by decide +kernel
theorem dX4_addNode_52 : decode cX4_addNode 52 = .ok (.aload_n 0, 1) := by decide +kernel
theorem dX4_addNode_53 : decode cX4_addNode 53 = .ok (.getfield 9, 3) := by decide +kernel
theorem dX4_addNode_56 : decode cX4_addNode 56 = .ok (.iload_n 1, 1) := by decide +kernel
theorem dX4_addNode_57 : decode cX4_addNode 57 = .ok (.invokestatic 80, 3) := by decide +kernel
theorem dX4_addNode_60 : decode cX4_addNode 60 = .ok (.iastore, 1) := by decide +kernel
theorem dX4_addNode_61 : decode cX4_addNode 61 = .ok (.dup, 1) := by decide +kernel
theorem dX4_addNode_62 : decode cX4_addNode 62 = .ok (.bipush 6, 2) := by decide +kernel
theorem dX4_addNode_64 : decode cX4_addNode 64 = .ok (.aload_n 0, 1) := by decide +kernel
theorem dX4_addNode_65 : decode cX4_addNode 65 = .ok (.iload_n 1, 1) := by decide +kernel
theorem dX4_addNode_66 : decode cX4_addNode 66 = .ok (.invokevirtual 243, 3) := by decide +kernel
theorem dX4_addNode_69 : decode cX4_addNode 69 = .ok (.iastore, 1) := by decide +kernel
theorem dX4_addNode_70 : decode cX4_addNode 70 = .ok (.dup, 1) := by decide +kernel
theorem dX4_addNode_71 : decode cX4_addNode 71 = .ok (.bipush 7, 2) := by decide +kernel
theorem dX4_addNode_73 : decode cX4_addNode 73 = .ok (.aload_n 0, 1) := by decide +kernel
theorem dX4_addNode_74 : decode cX4_addNode 74 = .ok (.iload_n 1, 1) := by decide +kernel
theorem dX4_addNode_75 : decode cX4_addNode 75 = .ok (.invokevirtual 262, 3) := by decide +kernel
theorem dX4_addNode_78 : decode cX4_addNode 78 = .ok (.iastore, 1) := by decide +kernel
theorem dX4_addNode_79 : decode cX4_addNode 79 = .ok (.dup, 1) := by decide +kernel
theorem dX4_addNode_80 : decode cX4_addNode 80 = .ok (.bipush 8, 2) := by decide +kernel
theorem dX4_addNode_82 : decode cX4_addNode 82 = .ok (.aload_n 0, 1) := by decide +kernel
theorem dX4_addNode_83 : decode cX4_addNode 83 = .ok (.iload_n 1, 1) := by decide +kernel
theorem dX4_addNode_84 : decode cX4_addNode 84 = .ok (.invokevirtual 265, 3) := by decide +kernel
theorem dX4_addNode_87 : decode cX4_addNode 87 = .ok (.iastore, 1) := by decide +kernel
theorem dX4_addNode_88 : decode cX4_addNode 88 = .ok (.dup, 1) := by decide +kernel
theorem dX4_addNode_89 : decode cX4_addNode 89 = .ok (.bipush 9, 2) := by decide +kernel
theorem dX4_addNode_91 : decode cX4_addNode 91 = .ok (.aload_n 0, 1) := by decide +kernel
theorem dX4_addNode_92 : decode cX4_addNode 92 = .ok (.iload_n 1, 1) := by decide +kernel
theorem dX4_addNode_93 : decode cX4_addNode 93 = .ok (.invokevirtual 272, 3) := by decide +kernel
theorem dX4_addNode_96 : decode cX4_addNode 96 = .ok (.iastore, 1) := by decide +kernel
theorem dX4_addNode_97 : decode cX4_addNode 97 = .ok (.dup, 1) := by decide +kernel
theorem dX4_addNode_98 : decode cX4_addNode 98 = .ok (.bipush 10, 2) := by decide +kernel
theorem dX4_addNode_100 : decode cX4_addNode 100 = .ok (.aload_n 0, 1) := by decide +kernel
theorem dX4_addNode_101 : decode cX4_addNode 101 = .ok (.iload_n 1, 1) := by decide +kernel
theorem dX4_addNode_102 : decode cX4_addNode 102 = .ok (.invokevirtual 275, 3) := by decide +kernel
theorem dX4_addNode_105 : decode cX4_addNode 105 = .ok (.iastore, 1) := by decide +kernel
theorem dX4_addNode_106 : decode cX4_addNode 106 = .ok (.astore_n 2, 1) := by decide +kernel
theorem dX4_addNode_107 : decode cX4_addNode 107 = .ok (.aload_n 2, 1) := by decide +kernel
theorem dX4_addNode_108 : decode cX4_addNode 108 = .ok (.astore_n 3, 1) := by decide +kernel
theorem dX4_addNode_109 : decode cX4_addNode 109 = .ok (.aload_n 3, 1) := by decide +kernel
theorem dX4_addNode_110 : decode cX4_addNode 110 = .ok (.arraylength, 1) := by decide +kernel
theorem dX4_addNode_111 : decode cX4_addNode 111 = .ok (.istore 4, 2) := by decide +kernel
theorem dX4_addNode_113 : decode cX4_addNode 113 = .ok (.iconst 0, 1) := by decide +kernel
theorem dX4_addNode_114 : decode cX4_addNode 114 = .ok (.istore 5, 2) := by decide +kernel
theorem dX4_addNode_116 : decode cX4_addNode 116 = .ok (.iload 5, 2) := by decide +kernel
theorem dX4_addNode_118 : decode cX4_addNode 118 = .ok (.iload 4, 2) := by decide +kernel
theorem dX4_addNode_120 : decode cX4_addNode 120 = .ok (.if_icmp .ge 22, 3) := by decide +kernel
theorem dX4_addNode_123 : decode cX4_addNode 123 = .ok (.aload_n 3, 1) := by decide +kernel
theorem dX4_addNode_124 : decode cX4_addNode 124 = .ok (.iload 5, 2) := by decide +kernel
theorem dX4_addNode_126 : decode cX4_addNode 126 = .ok (.iaload, 1) := by decide +kernel
theorem dX4_addNode_127 : decode cX4_addNode 127 = .ok (.istore 6, 2) := by decide +kernel
theorem dX4_addNode_129 : decode cX4_addNode 129 = .ok (.aload_n 0, 1) := by decide +kernel
theorem dX4_addNode_130 : decode cX4_addNode 130 = .ok (.iload 6, 2) := by decide +kernel
theorem dX4_addNode_132 : decode cX4_addNode 132 = .ok (.i2l, 1) := by decide +kernel
theorem dX4_addNode_133 : decode cX4_addNode 133 = .ok (.invokevirtual 287, 3) := by decide +kernel
theorem dX4_addNode_136 : decode cX4_addNode 136 = .ok (.iinc 5 1, 3) := by decide +kernel
theorem dX4_addNode_139 : decode cX4_addNode 139 = .ok (.goto (-23), 3) := by decide +kernel
theorem dX4_addNode_142 : decode cX4_addNode 142 = .ok (.aload_n 0, 1) := by decide +kernel
theorem dX4_addNode_143 : decode cX4_addNode 143 = .ok (.getfield 9, 3) := by decide +kernel
theorem dX4_addNode_146 : decode cX4_addNode 146 = .ok (.iload_n 1, 1) := by decide +kernel
theorem dX4_addNode_147 : decode cX4_addNode 147 = .ok (.iconst 1, 1) := by decide +kernel
theorem dX4_addNode_148 : decode cX4_addNode 148 = .ok (.invokestatic 61, 3) := by decide +kernel
theorem dX4_addNode_151 : decode cX4_addNode 151 = .ok (.ifCond .eq 38, 3) := by decide +kernel
theorem dX4_addNode_154 : decode cX4_addNode 154 = .ok (.iconst 0, 1) := by decide +kernel
theorem dX4_addNode_155 : decode cX4_addNode 155 = .ok (.istore_n 3, 1) := by decide +kernel
theorem dX4_addNode_156 : decode cX4_addNode 156 = .ok (.iload_n 3, 1) := by decide +kernel
theorem dX4_addNode_157 : decode cX4_addNode 157 = .ok (.aload_n 0, 1) := by decide +kernel
theorem dX4_addNode_158 : decode cX4_addNode 158 = .ok (.getfield 9, 3) := by decide +kernel
theorem dX4_addNode_161 : decode cX4_addNode 161 = .ok (.bipush 64, 2) := by decide +kernel
theorem dX4_addNode_163 : decode cX4_addNode 163 = .ok (.iload_n 1, 1) := by decide +kernel
theorem dX4_addNode_164 : decode cX4_addNode 164 = .ok (.iadd, 1) := by decide +kernel
theorem dX4_addNode_165 : decode cX4_addNode 165 = .ok (.iaload, 1) := by decide +kernel
theorem dX4_addNode_166 : decode cX4_addNode 166 = .ok (.if_icmp .ge 23, 3) := by decide +kernel
theorem dX4_addNode_169 : decode cX4_addNode 169 = .ok (.aload_n 0, 1) := by decide +kernel
theorem dX4_addNode_170 : decode cX4_addNode 170 = .ok (.aload_n 0, 1) := by decide +kernel
theorem dX4_addNode_171 : decode cX4_addNode 171 = .ok (.getfield 9, 3) := by decide +kernel
theorem dX4_addNode_174 : decode cX4_addNode 174 = .ok (.iload_n 1, 1) := by decide +kernel
theorem dX4_addNode_175 : decode cX4_addNode 175 = .ok (.iload_n 3, 1) := by decide +kernel
theorem dX4_addNode_176 : decode cX4_addNode 176 = .ok (.invokestatic 217, 3) := by decide +kernel
theorem dX4_addNode_179 : decode cX4_addNode 179 = .ok (.i2l, 1) := by decide +kernel
theorem dX4_addNode_180 : decode cX4_addNode 180 = .ok (.invokevirtual 287, 3) := by decide +kernel
theorem dX4_addNode_183 : decode cX4_addNode 183 = .ok (.iinc 3 1, 3) := by decide +kernel
theorem dX4_addNode_186 : decode cX4_addNode 186 = .ok (.goto (-30), 3) := by decide +kernel
theorem dX4_addNode_189 : decode cX4_addNode 189 = .ok (.aload_n 0, 1) := by decide +kernel
theorem dX4_addNode_190 : decode cX4_addNode 190 = .ok (.getfield 9, 3) := by decide +kernel
theorem dX4_addNode_193 : decode cX4_addNode 193 = .ok (.iload_n 1, 1) := by decide +kernel
theorem dX4_addNode_194 : decode cX4_addNode 194 = .ok (.iconst 2, 1) := by decide +kernel
theorem dX4_addNode_195 : decode cX4_addNode 195 = .ok (.invokestatic 61, 3) := by decide +kernel
theorem dX4_addNode_198 : decode cX4_addNode 198 = .ok (.ifCond .eq 88, 3) := by decide +kernel
theorem dX4_addNode_201 : decode cX4_addNode 201 = .ok (.iconst 0, 1) := by decide +kernel
theorem dX4_addNode_202 : decode cX4_addNode 202 = .ok (.istore_n 3, 1) := by decide +kernel
theorem dX4_addNode_203 : decode cX4_addNode 203 = .ok (.iload_n 3, 1) := by decide +kernel
theorem dX4_addNode_204 : decode cX4_addNode 204 = .ok (.aload_n 0, 1) := by decide +kernel
theorem dX4_addNode_205 : decode cX4_addNode 205 = .ok (.getfield 9, 3) := by decide +kernel
theorem dX4_addNode_208 : decode cX4_addNode 208 = .ok (.iload_n 1, 1) := by decide +kernel
theorem dX4_addNode_209 : decode cX4_addNode 209 = .ok (.invokestatic 53, 3) := by decide +kernel
theorem dX4_addNode_212 : decode cX4_addNode 212 = .ok (.if_icmp .ge 74, 3) := by decide +kernel
theorem dX4_addNode_215 : decode cX4_addNode 215 = .ok (.aload_n 0, 1) := by decide +kernel
theorem dX4_addNode_216 : decode cX4_addNode 216 = .ok (.aload_n 0, 1) := by decide +kernel
theorem dX4_addNode_217 : decode cX4_addNode 217 = .ok (.getfield 9, 3) := by decide +kernel
theorem dX4_addNode_220 : decode cX4_addNode 220 = .ok (.sipush 832, 3) := by decide +kernel
theorem dX4_addNode_223 : decode cX4_addNode 223 = .ok (.iload_n 1, 1) := by decide +kernel
theorem dX4_addNode_224 : decode cX4_addNode 224 = .ok (.bipush 12, 2) := by decide +kernel
theorem dX4_addNode_226 : decode cX4_addNode 226 = .ok (.imul, 1) := by decide +kernel
theorem dX4_addNode_227 : decode cX4_addNode 227 = .ok (.iadd, 1) := by decide +kernel
theorem dX4_addNode_228 : decode cX4_addNode 228 = .ok (.iload_n 3, 1) := by decide +kernel
theorem dX4_addNode_229 : decode cX4_addNode 229 = .ok (.iadd, 1) := by decide +kernel
theorem dX4_addNode_230 : decode cX4_addNode 230 = .ok (.iaload, 1) := by decide +kernel
theorem dX4_addNode_231 : decode cX4_addNode 231 = .ok (.i2l, 1) := by decide +kernel
theorem dX4_addNode_232 : decode cX4_addNode 232 = .ok (.invokevirtual 287, 3) := by decide +kernel
theorem dX4_addNode_235 : decode cX4_addNode 235 = .ok (.aload_n 0, 1) := by decide +kernel
theorem dX4_addNode_236 : decode cX4_addNode 236 = .ok (.aload_n 0, 1) := by decide +kernel
theorem dX4_addNode_237 : decode cX4_addNode 237 = .ok (.getfield 9, 3) := by decide +kernel
theorem dX4_addNode_240 : decode cX4_addNode 240 = .ok (.sipush 1216, 3) := by decide +kernel
theorem dX4_addNode_243 : decode cX4_addNode 243 = .ok (.iload_n 1, 1) := by decide +kernel
theorem dX4_addNode_244 : decode cX4_addNode 244 = .ok (.bipush 12, 2) := by decide +kernel
theorem dX4_addNode_246 : decode cX4_addNode 246 = .ok (.imul, 1) := by decide +kernel
theorem dX4_addNode_247 : decode cX4_addNode 247 = .ok (.iadd, 1) := by decide +kernel
theorem dX4_addNode_248 : decode cX4_addNode 248 = .ok (.iload_n 3, 1) := by decide +kernel
theorem dX4_addNode_249 : decode cX4_addNode 249 = .ok (.iadd, 1) := by decide +kernel
theorem dX4_addNode_250 : decode cX4_addNode 250 = .ok (.iaload, 1) := by decide +kernel
theorem dX4_addNode_251 : decode cX4_addNode 251 = .ok (.i2l, 1) := by decide +kernel
theorem dX4_addNode_252 : decode cX4_addNode 252 = .ok (.invokevirtual 287, 3) := by decide +kernel
theorem dX4_addNode_255 : decode cX4_addNode 255 = .ok (.aload_n 0, 1) := by decide +kernel
theorem dX4_addNode_256 : decode cX4_addNode 256 = .ok (.aload_n 0, 1) := by decide +kernel
theorem dX4_addNode_257 : decode cX4_addNode 257 = .ok (.iload_n 1, 1) := by decide +kernel
theorem dX4_addNode_258 : decode cX4_addNode 258 = .ok (.aload_n 0, 1) := by decide +kernel
theorem dX4_addNode_259 : decode cX4_addNode 259 = .ok (.getfield 9, 3) := by decide +kernel
theorem dX4_addNode_262 : decode cX4_addNode 262 = .ok (.sipush 832, 3) := by decide +kernel
theorem dX4_addNode_265 : decode cX4_addNode 265 = .ok (.iload_n 1, 1) := by decide +kernel
theorem dX4_addNode_266 : decode cX4_addNode 266 = .ok (.bipush 12, 2) := by decide +kernel
theorem dX4_addNode_268 : decode cX4_addNode 268 = .ok (.imul, 1) := by decide +kernel
theorem dX4_addNode_269 : decode cX4_addNode 269 = .ok (.iadd, 1) := by decide +kernel
theorem dX4_addNode_270 : decode cX4_addNode 270 = .ok (.iload_n 3, 1) := by decide +kernel
theorem dX4_addNode_271 : decode cX4_addNode 271 = .ok (.iadd, 1) := by decide +kernel
theorem dX4_addNode_272 : decode cX4_addNode 272 = .ok (.iaload, 1) := by decide +kernel
theorem dX4_addNode_273 : decode cX4_addNode 273 = .ok (.invokevirtual 259, 3) := by decide +kernel
theorem dX4_addNode_276 : decode cX4_addNode 276 = .ok (.i2l, 1) := by decide +kernel
theorem dX4_addNode_277 : decode cX4_addNode 277 = .ok (.invokevirtual 287, 3) := by decide +kernel
theorem dX4_addNode_280 : decode cX4_addNode 280 = .ok (.iinc 3 1, 3) := by decide +kernel
theorem dX4_addNode_283 : decode cX4_addNode 283 = .ok (.goto (-80), 3) := by decide +kernel
theorem dX4_addNode_286 : decode cX4_addNode 286 = .ok (.return_, 1) := by decide +kernel
theorem dX4_digest_0 : decode cX4_digest 0 = .ok (.aload_n 0, 1) := by decide +kernel
theorem dX4_digest_1 : decode cX4_digest 1 = .ok (.invokevirtual 129, 3) := by decide +kernel
theorem dX4_digest_4 : decode cX4_digest 4 = .ok (.ifCond .eq 5, 3) := by decide +kernel
theorem dX4_digest_7 : decode cX4_digest 7 = .ok (.lconst 0, 1) := by decide +kernel
theorem dX4_digest_8 : decode cX4_digest 8 = .ok (.lreturn, 1) := by decide +kernel
theorem dX4_digest_9 : decode cX4_digest 9 = .ok (.aload_n 0, 1) := by decide +kernel
theorem dX4_digest_10 : decode cX4_digest 10 = .ok (.ldc2_w 291, 3) := by decide +kernel
theorem dX4_digest_13 : decode cX4_digest 13 = .ok (.putfield 281, 3) := by decide +kernel
theorem dX4_digest_16 : decode cX4_digest 16 = .ok (.bipush 6, 2) := by decide +kernel
theorem dX4_digest_18 : decode cX4_digest 18 = .ok (.newarray .int, 2) := by decide +kernel
theorem dX4_digest_20 : decode cX4_digest 20 = .ok (.dup, 1) := by decide +kernel
theorem dX4_digest_21 : decode cX4_digest 21 = .ok (.iconst 0, 1) := by decide +kernel
theorem dX4_digest_22 : decode cX4_digest 22 = .ok (.aload_n 0, 1) := by decide +kernel
theorem dX4_digest_23 : decode cX4_digest 23 = .ok (.invokevirtual 237, 3) := by decide +kernel
theorem dX4_digest_26 : decode cX4_digest 26 = .ok (.iastore, 1) := by decide +kernel
theorem dX4_digest_27 : decode cX4_digest 27 = .ok (.dup, 1) := by decide +kernel
theorem dX4_digest_28 : decode cX4_digest 28 = .ok (.iconst 1, 1) := by decide +kernel
theorem dX4_digest_29 : decode cX4_digest 29 = .ok (.aload_n 0, 1) := by decide +kernel
theorem dX4_digest_30 : decode cX4_digest 30 = .ok (.getfield 9, 3) := by decide +kernel
theorem dX4_digest_33 : decode cX4_digest 33 = .ok (.sipush 1604, 3) := by decide +kernel
theorem dX4_digest_36 : decode cX4_digest 36 = .ok (.iaload, 1) := by decide +kernel
theorem dX4_digest_37 : decode cX4_digest 37 = .ok (.iastore, 1) := by decide +kernel
theorem dX4_digest_38 : decode cX4_digest 38 = .ok (.dup, 1) := by decide +kernel
theorem dX4_digest_39 : decode cX4_digest 39 = .ok (.iconst 2, 1) := by decide +kernel
theorem dX4_digest_40 : decode cX4_digest 40 = .ok (.aload_n 0, 1) := by decide +kernel
theorem dX4_digest_41 : decode cX4_digest 41 = .ok (.getfield 106, 3) := by decide +kernel
theorem dX4_digest_44 : decode cX4_digest 44 = .ok (.iastore, 1) := by decide +kernel
theorem dX4_digest_45 : decode cX4_digest 45 = .ok (.dup, 1) := by decide +kernel
theorem dX4_digest_46 : decode cX4_digest 46 = .ok (.iconst 3, 1) := by decide +kernel
theorem dX4_digest_47 : decode cX4_digest 47 = .ok (.aload_n 0, 1) := by decide +kernel
theorem dX4_digest_48 : decode cX4_digest 48 = .ok (.invokevirtual 231, 3) := by decide +kernel
theorem dX4_digest_51 : decode cX4_digest 51 = .ok (.iastore, 1) := by decide +kernel
theorem dX4_digest_52 : decode cX4_digest 52 = .ok (.dup, 1) := by decide +kernel
theorem dX4_digest_53 : decode cX4_digest 53 = .ok (.iconst 4, 1) := by decide +kernel
theorem dX4_digest_54 : decode cX4_digest 54 = .ok (.aload_n 0, 1) := by decide +kernel
theorem dX4_digest_55 : decode cX4_digest 55 = .ok (.getfield 234, 3) := by decide +kernel
theorem dX4_digest_58 : decode cX4_digest 58 = .ok (.iastore, 1) := by decide +kernel
theorem dX4_digest_59 : decode cX4_digest 59 = .ok (.dup, 1) := by decide +kernel
theorem dX4_digest_60 : decode cX4_digest 60 = .ok (.iconst 5, 1) := by decide +kernel
theorem dX4_digest_61 : decode cX4_digest 61 = .ok (.aload_n 0, 1) := by decide +kernel
theorem dX4_digest_62 : decode cX4_digest 62 = .ok (.getfield 9, 3) := by decide +kernel
theorem dX4_digest_65 : decode cX4_digest 65 = .ok (.invokestatic 99, 3) := by decide +kernel
theorem dX4_digest_68 : decode cX4_digest 68 = .ok (.iastore, 1) := by decide +kernel
theorem dX4_digest_69 : decode cX4_digest 69 = .ok (.astore_n 1, 1) := by decide +kernel
theorem dX4_digest_70 : decode cX4_digest 70 = .ok (.aload_n 1, 1) := by decide +kernel
theorem dX4_digest_71 : decode cX4_digest 71 = .ok (.astore_n 2, 1) := by decide +kernel
theorem dX4_digest_72 : decode cX4_digest 72 = .ok (.aload_n 2, 1) := by decide +kernel
theorem dX4_digest_73 : decode cX4_digest 73 = .ok (.arraylength, 1) := by decide +kernel
theorem dX4_digest_74 : decode cX4_digest 74 = .ok (.istore_n 3, 1) := by decide +kernel
theorem dX4_digest_75 : decode cX4_digest 75 = .ok (.iconst 0, 1) := by decide +kernel
theorem dX4_digest_76 : decode cX4_digest 76 = .ok (.istore 4, 2) := by decide +kernel
theorem dX4_digest_78 : decode cX4_digest 78 = .ok (.iload 4, 2) := by decide +kernel
theorem dX4_digest_80 : decode cX4_digest 80 = .ok (.iload_n 3, 1) := by decide +kernel
theorem dX4_digest_81 : decode cX4_digest 81 = .ok (.if_icmp .ge 22, 3) := by decide +kernel
theorem dX4_digest_84 : decode cX4_digest 84 = .ok (.aload_n 2, 1) := by decide +kernel
theorem dX4_digest_85 : decode cX4_digest 85 = .ok (.iload 4, 2) := by decide +kernel
theorem dX4_digest_87 : decode cX4_digest 87 = .ok (.iaload, 1) := by decide +kernel
theorem dX4_digest_88 : decode cX4_digest 88 = .ok (.istore 5, 2) := by decide +kernel
theorem dX4_digest_90 : decode cX4_digest 90 = .ok (.aload_n 0, 1) := by decide +kernel
theorem dX4_digest_91 : decode cX4_digest 91 = .ok (.iload 5, 2) := by decide +kernel
theorem dX4_digest_93 : decode cX4_digest 93 = .ok (.i2l, 1) := by decide +kernel
theorem dX4_digest_94 : decode cX4_digest 94 = .ok (.invokevirtual 287, 3) := by decide +kernel
theorem dX4_digest_97 : decode cX4_digest 97 = .ok (.iinc 4 1, 3) := by decide +kernel
theorem dX4_digest_100 : decode cX4_digest 100 = .ok (.goto (-22), 3) := by decide +kernel
theorem dX4_digest_103 : decode cX4_digest 103 = .ok (.iconst 0, 1) := by decide +kernel
theorem dX4_digest_104 : decode cX4_digest 104 = .ok (.istore_n 2, 1) := by decide +kernel
theorem dX4_digest_105 : decode cX4_digest 105 = .ok (.iload_n 2, 1) := by decide +kernel
theorem dX4_digest_106 : decode cX4_digest 106 = .ok (.iconst 4, 1) := by decide +kernel
theorem dX4_digest_107 : decode cX4_digest 107 = .ok (.if_icmp .ge 37, 3) := by decide +kernel
theorem dX4_digest_110 : decode cX4_digest 110 = .ok (.aload_n 0, 1) := by decide +kernel
theorem dX4_digest_111 : decode cX4_digest 111 = .ok (.aload_n 0, 1) := by decide +kernel
theorem dX4_digest_112 : decode cX4_digest 112 = .ok (.getfield 9, 3) := by decide +kernel
theorem dX4_digest_115 : decode cX4_digest 115 = .ok (.iload_n 2, 1) := by decide +kernel
theorem dX4_digest_116 : decode cX4_digest 116 = .ok (.invokestatic 103, 3) := by decide +kernel
theorem dX4_digest_119 : decode cX4_digest 119 = .ok (.i2l, 1) := by decide +kernel
theorem dX4_digest_120 : decode cX4_digest 120 = .ok (.invokevirtual 287, 3) := by decide +kernel
theorem dX4_digest_123 : decode cX4_digest 123 = .ok (.aload_n 0, 1) := by decide +kernel
theorem dX4_digest_124 : decode cX4_digest 124 = .ok (.aload_n 0, 1) := by decide +kernel
theorem dX4_digest_125 : decode cX4_digest 125 = .ok (.getfield 9, 3) := by decide +kernel
theorem dX4_digest_128 : decode cX4_digest 128 = .ok (.sipush 1600, 3) := by decide +kernel
theorem dX4_digest_131 : decode cX4_digest 131 = .ok (.iload_n 2, 1) := by decide +kernel
theorem dX4_digest_132 : decode cX4_digest 132 = .ok (.iadd, 1) := by decide +kernel
theorem dX4_digest_133 : decode cX4_digest 133 = .ok (.iaload, 1) := by decide +kernel
theorem dX4_digest_134 : decode cX4_digest 134 = .ok (.i2l, 1) := by decide +kernel
theorem dX4_digest_135 : decode cX4_digest 135 = .ok (.invokevirtual 287, 3) := by decide +kernel
theorem dX4_digest_138 : decode cX4_digest 138 = .ok (.iinc 2 1, 3) := by decide +kernel
theorem dX4_digest_141 : decode cX4_digest 141 = .ok (.goto (-36), 3) := by decide +kernel
theorem dX4_digest_144 : decode cX4_digest 144 = .ok (.aload_n 0, 1) := by decide +kernel
theorem dX4_digest_145 : decode cX4_digest 145 = .ok (.aload_n 0, 1) := by decide +kernel
theorem dX4_digest_146 : decode cX4_digest 146 = .ok (.invokevirtual 278, 3) := by decide +kernel
theorem dX4_digest_149 : decode cX4_digest 149 = .ok (.i2l, 1) := by decide +kernel
theorem dX4_digest_150 : decode cX4_digest 150 = .ok (.invokevirtual 287, 3) := by decide +kernel
theorem dX4_digest_153 : decode cX4_digest 153 = .ok (.iconst 0, 1) := by decide +kernel
theorem dX4_digest_154 : decode cX4_digest 154 = .ok (.istore_n 2, 1) := by decide +kernel
theorem dX4_digest_155 : decode cX4_digest 155 = .ok (.iload_n 2, 1) := by decide +kernel
theorem dX4_digest_156 : decode cX4_digest 156 = .ok (.bipush 32, 2) := by decide +kernel
theorem dX4_digest_158 : decode cX4_digest 158 = .ok (.if_icmp .ge 25, 3) := by decide +kernel
theorem dX4_digest_161 : decode cX4_digest 161 = .ok (.aload_n 0, 1) := by decide +kernel
theorem dX4_digest_162 : decode cX4_digest 162 = .ok (.getfield 9, 3) := by decide +kernel
theorem dX4_digest_165 : decode cX4_digest 165 = .ok (.iconst 0, 1) := by decide +kernel
theorem dX4_digest_166 : decode cX4_digest 166 = .ok (.iload_n 2, 1) := by decide +kernel
theorem dX4_digest_167 : decode cX4_digest 167 = .ok (.iadd, 1) := by decide +kernel
theorem dX4_digest_168 : decode cX4_digest 168 = .ok (.iaload, 1) := by decide +kernel
theorem dX4_digest_169 : decode cX4_digest 169 = .ok (.ifCond .eq 8, 3) := by decide +kernel
theorem dX4_digest_172 : decode cX4_digest 172 = .ok (.aload_n 0, 1) := by decide +kernel
theorem dX4_digest_173 : decode cX4_digest 173 = .ok (.iload_n 2, 1) := by decide +kernel
theorem dX4_digest_174 : decode cX4_digest 174 = .ok (.invokevirtual 293, 3) := by decide +kernel
theorem dX4_digest_177 : decode cX4_digest 177 = .ok (.iinc 2 1, 3) := by decide +kernel
theorem dX4_digest_180 : decode cX4_digest 180 = .ok (.goto (-25), 3) := by decide +kernel
theorem dX4_digest_183 : decode cX4_digest 183 = .ok (.iconst 0, 1) := by decide +kernel
theorem dX4_digest_184 : decode cX4_digest 184 = .ok (.istore_n 2, 1) := by decide +kernel
theorem dX4_digest_185 : decode cX4_digest 185 = .ok (.iload_n 2, 1) := by decide +kernel
theorem dX4_digest_186 : decode cX4_digest 186 = .ok (.bipush 6, 2) := by decide +kernel
theorem dX4_digest_188 : decode cX4_digest 188 = .ok (.if_icmp .ge 59, 3) := by decide +kernel
theorem dX4_digest_191 : decode cX4_digest 191 = .ok (.aload_n 0, 1) := by decide +kernel
theorem dX4_digest_192 : decode cX4_digest 192 = .ok (.getfield 19, 3) := by decide +kernel
theorem dX4_digest_195 : decode cX4_digest 195 = .ok (.iload_n 2, 1) := by decide +kernel
theorem dX4_digest_196 : decode cX4_digest 196 = .ok (.iaload, 1) := by decide +kernel
theorem dX4_digest_197 : decode cX4_digest 197 = .ok (.ifCond .ge 6, 3) := by decide +kernel
theorem dX4_digest_200 : decode cX4_digest 200 = .ok (.goto 41, 3) := by decide +kernel
theorem dX4_digest_203 : decode cX4_digest 203 = .ok (.aload_n 0, 1) := by decide +kernel
theorem dX4_digest_204 : decode cX4_digest 204 = .ok (.iload_n 2, 1) := by decide +kernel
theorem dX4_digest_205 : decode cX4_digest 205 = .ok (.i2l, 1) := by decide +kernel
theorem dX4_digest_206 : decode cX4_digest 206 = .ok (.invokevirtual 287, 3) := by decide +kernel
theorem dX4_digest_209 : decode cX4_digest 209 = .ok (.aload_n 0, 1) := by decide +kernel
theorem dX4_digest_210 : decode cX4_digest 210 = .ok (.aload_n 0, 1) := by decide +kernel
theorem dX4_digest_211 : decode cX4_digest 211 = .ok (.getfield 19, 3) := by decide +kernel
theorem dX4_digest_214 : decode cX4_digest 214 = .ok (.iload_n 2, 1) := by decide +kernel
theorem dX4_digest_215 : decode cX4_digest 215 = .ok (.iaload, 1) := by decide +kernel
theorem dX4_digest_216 : decode cX4_digest 216 = .ok (.i2l, 1) := by decide +kernel
theorem dX4_digest_217 : decode cX4_digest 217 = .ok (.invokevirtual 287, 3) := by decide +kernel
theorem dX4_digest_220 : decode cX4_digest 220 = .ok (.aload_n 0, 1) := by decide +kernel
theorem dX4_digest_221 : decode cX4_digest 221 = .ok (.aload_n 0, 1) := by decide +kernel
theorem dX4_digest_222 : decode cX4_digest 222 = .ok (.getfield 22, 3) := by decide +kernel
theorem dX4_digest_225 : decode cX4_digest 225 = .ok (.iload_n 2, 1) := by decide +kernel
theorem dX4_digest_226 : decode cX4_digest 226 = .ok (.iaload, 1) := by decide +kernel
theorem dX4_digest_227 : decode cX4_digest 227 = .ok (.i2l, 1) := by decide +kernel
theorem dX4_digest_228 : decode cX4_digest 228 = .ok (.invokevirtual 287, 3) := by decide +kernel
theorem dX4_digest_231 : decode cX4_digest 231 = .ok (.aload_n 0, 1) := by decide +kernel
theorem dX4_digest_232 : decode cX4_digest 232 = .ok (.aload_n 0, 1) := by decide +kernel
theorem dX4_digest_233 : decode cX4_digest 233 = .ok (.iload_n 2, 1) := by decide +kernel
theorem dX4_digest_234 : decode cX4_digest 234 = .ok (.invokevirtual 228, 3) := by decide +kernel
theorem dX4_digest_237 : decode cX4_digest 237 = .ok (.i2l, 1) := by decide +kernel
theorem dX4_digest_238 : decode cX4_digest 238 = .ok (.invokevirtual 287, 3) := by decide +kernel
theorem dX4_digest_241 : decode cX4_digest 241 = .ok (.iinc 2 1, 3) := by decide +kernel
theorem dX4_digest_244 : decode cX4_digest 244 = .ok (.goto (-59), 3) := by decide +kernel
theorem dX4_digest_247 : decode cX4_digest 247 = .ok (.aload_n 0, 1) := by decide +kernel
theorem dX4_digest_248 : decode cX4_digest 248 = .ok (.getfield 281, 3) := by decide +kernel
theorem dX4_digest_251 : decode cX4_digest 251 = .ok (.lreturn, 1) := by decide +kernel
