def RL : String := "JournalDiskLaw"
abbrev cL_makeFile : ByteArray := method_3_code
def yL_makeFile : MethodName := ⟨RL, "makeFile", "(LJournalDisk;II[J)I"⟩
abbrev cL_makeFolder : ByteArray := method_4_code
def yL_makeFolder : MethodName := ⟨RL, "makeFolder", "(LJournalDisk;II[J)I"⟩
abbrev cL_makeLink : ByteArray := method_5_code
def yL_makeLink : MethodName := ⟨RL, "makeLink", "(LJournalDisk;IIIII[J)I"⟩
abbrev cL_cloneFile : ByteArray := method_6_code
def yL_cloneFile : MethodName := ⟨RL, "cloneFile", "(LJournalDisk;III[J)I"⟩
abbrev cL_addName : ByteArray := method_7_code
def yL_addName : MethodName := ⟨RL, "addName", "(LJournalDisk;III[J)I"⟩
abbrev cL_unlink : ByteArray := method_8_code
def yL_unlink : MethodName := ⟨RL, "unlink", "(LJournalDisk;II[J)I"⟩
abbrev cL_removeFolder : ByteArray := method_9_code
def yL_removeFolder : MethodName := ⟨RL, "removeFolder", "(LJournalDisk;II[J)I"⟩
abbrev cL_rename : ByteArray := method_10_code
def yL_rename : MethodName := ⟨RL, "rename", "(LJournalDisk;IIII[J)I"⟩
abbrev cL_exchange : ByteArray := method_11_code
def yL_exchange : MethodName := ⟨RL, "exchange", "(LJournalDisk;IIII[J)I"⟩
abbrev cL_write : ByteArray := method_12_code
def yL_write : MethodName := ⟨RL, "write", "(LJournalDisk;III[J)I"⟩
abbrev cL_truncate : ByteArray := method_13_code
def yL_truncate : MethodName := ⟨RL, "truncate", "(LJournalDisk;II[J)I"⟩
abbrev cL_punch : ByteArray := method_14_code
def yL_punch : MethodName := ⟨RL, "punch", "(LJournalDisk;II[J)I"⟩
abbrev cL_share : ByteArray := method_15_code
def yL_share : MethodName := ⟨RL, "share", "(LJournalDisk;IIII[J)I"⟩
abbrev cL_setOwner : ByteArray := method_16_code
def yL_setOwner : MethodName := ⟨RL, "setOwner", "(LJournalDisk;II[J)I"⟩
abbrev cL_setQuota : ByteArray := method_17_code
def yL_setQuota : MethodName := ⟨RL, "setQuota", "(LJournalDisk;II[J)I"⟩
abbrev cL_open : ByteArray := method_18_code
def yL_open : MethodName := ⟨RL, "open", "(LJournalDisk;I[J)I"⟩
abbrev cL_close : ByteArray := method_19_code
def yL_close : MethodName := ⟨RL, "close", "(LJournalDisk;I[J)I"⟩
abbrev cL_seek : ByteArray := method_20_code
def yL_seek : MethodName := ⟨RL, "seek", "(LJournalDisk;II[J)I"⟩
abbrev cL_read : ByteArray := method_21_code
def yL_read : MethodName := ⟨RL, "read", "(LJournalDisk;II[J)I"⟩
abbrev cL_lock : ByteArray := method_22_code
def yL_lock : MethodName := ⟨RL, "lock", "(LJournalDisk;IIIZ[J)I"⟩
abbrev cL_unlock : ByteArray := method_23_code
def yL_unlock : MethodName := ⟨RL, "unlock", "(LJournalDisk;III[J)I"⟩
abbrev cL_whoHinders : ByteArray := method_24_code
def yL_whoHinders : MethodName := ⟨RL, "whoHinders", "(LJournalDisk;IIIZ[J)I"⟩
abbrev cL_lockRows : ByteArray := method_25_code
def yL_lockRows : MethodName := ⟨RL, "lockRows", "(LJournalDisk;I[J)I"⟩
abbrev cL_lockAt : ByteArray := method_26_code
def yL_lockAt : MethodName := ⟨RL, "lockAt", "(LJournalDisk;II[J)I"⟩
abbrev cL_nodeOf : ByteArray := method_27_code
def yL_nodeOf : MethodName := ⟨RL, "nodeOf", "(LJournalDisk;I[J)I"⟩
abbrev cL_positionOf : ByteArray := method_28_code
def yL_positionOf : MethodName := ⟨RL, "positionOf", "(LJournalDisk;I[J)I"⟩
abbrev cL_handles : ByteArray := method_29_code
def yL_handles : MethodName := ⟨RL, "handles", "(LJournalDisk;[J)I"⟩
abbrev cL_sync : ByteArray := method_30_code
def yL_sync : MethodName := ⟨RL, "sync", "(LJournalDisk;[J)I"⟩
abbrev cL_flush : ByteArray := method_31_code
def yL_flush : MethodName := ⟨RL, "flush", "(LJournalDisk;[J)I"⟩
abbrev cL_writeBack : ByteArray := method_32_code
def yL_writeBack : MethodName := ⟨RL, "writeBack", "(LJournalDisk;II)I"⟩
abbrev cL_cut : ByteArray := method_33_code
def yL_cut : MethodName := ⟨RL, "cut", "(LJournalDisk;)I"⟩
abbrev cL_fail : ByteArray := method_34_code
def yL_fail : MethodName := ⟨RL, "fail", "(LJournalDisk;III)I"⟩
abbrev cL_mount : ByteArray := method_35_code
def yL_mount : MethodName := ⟨RL, "mount", "(LJournalDisk;[J)I"⟩
abbrev cL_waiting : ByteArray := method_36_code
def yL_waiting : MethodName := ⟨RL, "waiting", "(LJournalDisk;[J)I"⟩
abbrev cL_changes : ByteArray := method_37_code
def yL_changes : MethodName := ⟨RL, "changes", "(LJournalDisk;[J)I"⟩
abbrev cL_nodes : ByteArray := method_38_code
def yL_nodes : MethodName := ⟨RL, "nodes", "(LJournalDisk;[J)I"⟩
abbrev cL_typeOf : ByteArray := method_39_code
def yL_typeOf : MethodName := ⟨RL, "typeOf", "(LJournalDisk;I[J)I"⟩
abbrev cL_linksOf : ByteArray := method_40_code
def yL_linksOf : MethodName := ⟨RL, "linksOf", "(LJournalDisk;I[J)I"⟩
abbrev cL_ownerOf : ByteArray := method_41_code
def yL_ownerOf : MethodName := ⟨RL, "ownerOf", "(LJournalDisk;I[J)I"⟩
abbrev cL_sizeOf : ByteArray := method_42_code
def yL_sizeOf : MethodName := ⟨RL, "sizeOf", "(LJournalDisk;I[J)I"⟩
abbrev cL_blocksOf : ByteArray := method_43_code
def yL_blocksOf : MethodName := ⟨RL, "blocksOf", "(LJournalDisk;I[J)I"⟩
abbrev cL_sharedOf : ByteArray := method_44_code
def yL_sharedOf : MethodName := ⟨RL, "sharedOf", "(LJournalDisk;I[J)I"⟩
abbrev cL_byteAt : ByteArray := method_45_code
def yL_byteAt : MethodName := ⟨RL, "byteAt", "(LJournalDisk;II[J)I"⟩
abbrev cL_isHole : ByteArray := method_46_code
def yL_isHole : MethodName := ⟨RL, "isHole", "(LJournalDisk;II[J)I"⟩
abbrev cL_nextData : ByteArray := method_47_code
def yL_nextData : MethodName := ⟨RL, "nextData", "(LJournalDisk;II[J)I"⟩
abbrev cL_nextHole : ByteArray := method_48_code
def yL_nextHole : MethodName := ⟨RL, "nextHole", "(LJournalDisk;II[J)I"⟩
abbrev cL_sameBytes : ByteArray := method_49_code
def yL_sameBytes : MethodName := ⟨RL, "sameBytes", "(LJournalDisk;II[J)I"⟩
abbrev cL_lookup : ByteArray := method_50_code
def yL_lookup : MethodName := ⟨RL, "lookup", "(LJournalDisk;II[J)I"⟩
abbrev cL_follow : ByteArray := method_51_code
def yL_follow : MethodName := ⟨RL, "follow", "(LJournalDisk;II[J)I"⟩
abbrev cL_nameAt : ByteArray := method_52_code
def yL_nameAt : MethodName := ⟨RL, "nameAt", "(LJournalDisk;II[J)I"⟩
abbrev cL_parentOf : ByteArray := method_53_code
def yL_parentOf : MethodName := ⟨RL, "parentOf", "(LJournalDisk;I[J)I"⟩
abbrev cL_depthOf : ByteArray := method_54_code
def yL_depthOf : MethodName := ⟨RL, "depthOf", "(LJournalDisk;I[J)I"⟩
abbrev cL_isOrphan : ByteArray := method_55_code
def yL_isOrphan : MethodName := ⟨RL, "isOrphan", "(LJournalDisk;I[J)I"⟩
abbrev cL_blocksUnder : ByteArray := method_56_code
def yL_blocksUnder : MethodName := ⟨RL, "blocksUnder", "(LJournalDisk;I[J)I"⟩
abbrev cL_wouldFree : ByteArray := method_57_code
def yL_wouldFree : MethodName := ⟨RL, "wouldFree", "(LJournalDisk;I[J)I"⟩
abbrev cL_used : ByteArray := method_58_code
def yL_used : MethodName := ⟨RL, "used", "(LJournalDisk;[J)I"⟩
abbrev cL_usedBy : ByteArray := method_59_code
def yL_usedBy : MethodName := ⟨RL, "usedBy", "(LJournalDisk;I[J)I"⟩
abbrev cL_quotaOf : ByteArray := method_60_code
def yL_quotaOf : MethodName := ⟨RL, "quotaOf", "(LJournalDisk;I[J)I"⟩
abbrev cL_greatestFile : ByteArray := method_61_code
def yL_greatestFile : MethodName := ⟨RL, "greatestFile", "(LJournalDisk;[J)I"⟩
abbrev cL_meanSize : ByteArray := method_62_code
def yL_meanSize : MethodName := ⟨RL, "meanSize", "(LJournalDisk;[D)I"⟩
abbrev cL_flaws : ByteArray := method_63_code
def yL_flaws : MethodName := ⟨RL, "flaws", "(LJournalDisk;[J)I"⟩
abbrev cL_digest : ByteArray := method_64_code
def yL_digest : MethodName := ⟨RL, "digest", "(LJournalDisk;[J)I"⟩
theorem dL_makeFile_0 : decode cL_makeFile 0 = .ok (.aload_n 3, 1) := by decide +kernel
theorem dL_makeFile_1 : decode cL_makeFile 1 = .ok (.iconst 0, 1) := by decide +kernel
theorem dL_makeFile_2 : decode cL_makeFile 2 = .ok (.aload_n 0, 1) := by decide +kernel
theorem dL_makeFile_3 : decode cL_makeFile 3 = .ok (.iload_n 1, 1) := by decide +kernel
theorem dL_makeFile_4 : decode cL_makeFile 4 = .ok (.iload_n 2, 1) := by decide +kernel
theorem dL_makeFile_5 : decode cL_makeFile 5 = .ok (.invokevirtual 7, 3) := by decide +kernel
theorem dL_makeFile_8 : decode cL_makeFile 8 = .ok (.i2l, 1) := by decide +kernel
theorem dL_makeFile_9 : decode cL_makeFile 9 = .ok (.lastore, 1) := by decide +kernel
theorem dL_makeFile_10 : decode cL_makeFile 10 = .ok (.goto 15, 3) := by decide +kernel
theorem dL_makeFile_13 : decode cL_makeFile 13 = .ok (.astore 4, 2) := by decide +kernel
theorem dL_makeFile_15 : decode cL_makeFile 15 = .ok (.iconst 1, 1) := by decide +kernel
theorem dL_makeFile_16 : decode cL_makeFile 16 = .ok (.ireturn, 1) := by decide +kernel
theorem dL_makeFile_17 : decode cL_makeFile 17 = .ok (.astore 4, 2) := by decide +kernel
theorem dL_makeFile_19 : decode cL_makeFile 19 = .ok (.iconst 2, 1) := by decide +kernel
theorem dL_makeFile_20 : decode cL_makeFile 20 = .ok (.ireturn, 1) := by decide +kernel
theorem dL_makeFile_21 : decode cL_makeFile 21 = .ok (.astore 4, 2) := by decide +kernel
theorem dL_makeFile_23 : decode cL_makeFile 23 = .ok (.iconst 3, 1) := by decide +kernel
theorem dL_makeFile_24 : decode cL_makeFile 24 = .ok (.ireturn, 1) := by decide +kernel
theorem dL_makeFile_25 : decode cL_makeFile 25 = .ok (.iconst 0, 1) := by decide +kernel
theorem dL_makeFile_26 : decode cL_makeFile 26 = .ok (.ireturn, 1) := by decide +kernel
theorem dL_makeFolder_0 : decode cL_makeFolder 0 = .ok (.aload_n 3, 1) := by decide +kernel
theorem dL_makeFolder_1 : decode cL_makeFolder 1 = .ok (.iconst 0, 1) := by decide +kernel
theorem dL_makeFolder_2 : decode cL_makeFolder 2 = .ok (.aload_n 0, 1) := by decide +kernel
theorem dL_makeFolder_3 : decode cL_makeFolder 3 = .ok (.iload_n 1, 1) := by decide +kernel
theorem dL_makeFolder_4 : decode cL_makeFolder 4 = .ok (.iload_n 2, 1) := by decide +kernel
theorem dL_makeFolder_5 : decode cL_makeFolder 5 = .ok (.invokevirtual 19, 3) := by decide +kernel
theorem dL_makeFolder_8 : decode cL_makeFolder 8 = .ok (.i2l, 1) := by decide +kernel
theorem dL_makeFolder_9 : decode cL_makeFolder 9 = .ok (.lastore, 1) := by decide +kernel
theorem dL_makeFolder_10 : decode cL_makeFolder 10 = .ok (.goto 15, 3) := by decide +kernel
theorem dL_makeFolder_13 : decode cL_makeFolder 13 = .ok (.astore 4, 2) := by decide +kernel
theorem dL_makeFolder_15 : decode cL_makeFolder 15 = .ok (.iconst 1, 1) := by decide +kernel
theorem dL_makeFolder_16 : decode cL_makeFolder 16 = .ok (.ireturn, 1) := by decide +kernel
theorem dL_makeFolder_17 : decode cL_makeFolder 17 = .ok (.astore 4, 2) := by decide +kernel
theorem dL_makeFolder_19 : decode cL_makeFolder 19 = .ok (.iconst 2, 1) := by decide +kernel
theorem dL_makeFolder_20 : decode cL_makeFolder 20 = .ok (.ireturn, 1) := by decide +kernel
theorem dL_makeFolder_21 : decode cL_makeFolder 21 = .ok (.astore 4, 2) := by decide +kernel
theorem dL_makeFolder_23 : decode cL_makeFolder 23 = .ok (.iconst 3, 1) := by decide +kernel
theorem dL_makeFolder_24 : decode cL_makeFolder 24 = .ok (.ireturn, 1) := by decide +kernel
theorem dL_makeFolder_25 : decode cL_makeFolder 25 = .ok (.iconst 0, 1) := by decide +kernel
theorem dL_makeFolder_26 : decode cL_makeFolder 26 = .ok (.ireturn, 1) := by decide +kernel
theorem dL_makeLink_0 : decode cL_makeLink 0 = .ok (.aload 6, 2) := by decide +kernel
theorem dL_makeLink_2 : decode cL_makeLink 2 = .ok (.iconst 0, 1) := by decide +kernel
theorem dL_makeLink_3 : decode cL_makeLink 3 = .ok (.aload_n 0, 1) := by decide +kernel
theorem dL_makeLink_4 : decode cL_makeLink 4 = .ok (.iload_n 1, 1) := by decide +kernel
theorem dL_makeLink_5 : decode cL_makeLink 5 = .ok (.iload_n 2, 1) := by decide +kernel
theorem dL_makeLink_6 : decode cL_makeLink 6 = .ok (.iload_n 3, 1) := by decide +kernel
theorem dL_makeLink_7 : decode cL_makeLink 7 = .ok (.iload 4, 2) := by decide +kernel
theorem dL_makeLink_9 : decode cL_makeLink 9 = .ok (.iload 5, 2) := by decide +kernel
theorem dL_makeLink_11 : decode cL_makeLink 11 = .ok (.invokevirtual 22, 3) := by decide +kernel
theorem dL_makeLink_14 : decode cL_makeLink 14 = .ok (.i2l, 1) := by decide +kernel
theorem dL_makeLink_15 : decode cL_makeLink 15 = .ok (.lastore, 1) := by decide +kernel
theorem dL_makeLink_16 : decode cL_makeLink 16 = .ok (.goto 15, 3) := by decide +kernel
theorem dL_makeLink_19 : decode cL_makeLink 19 = .ok (.astore 7, 2) := by decide +kernel
theorem dL_makeLink_21 : decode cL_makeLink 21 = .ok (.iconst 1, 1) := by decide +kernel
theorem dL_makeLink_22 : decode cL_makeLink 22 = .ok (.ireturn, 1) := by decide +kernel
theorem dL_makeLink_23 : decode cL_makeLink 23 = .ok (.astore 7, 2) := by decide +kernel
theorem dL_makeLink_25 : decode cL_makeLink 25 = .ok (.iconst 2, 1) := by decide +kernel
theorem dL_makeLink_26 : decode cL_makeLink 26 = .ok (.ireturn, 1) := by decide +kernel
theorem dL_makeLink_27 : decode cL_makeLink 27 = .ok (.astore 7, 2) := by decide +kernel
theorem dL_makeLink_29 : decode cL_makeLink 29 = .ok (.iconst 3, 1) := by decide +kernel
theorem dL_makeLink_30 : decode cL_makeLink 30 = .ok (.ireturn, 1) := by decide +kernel
theorem dL_makeLink_31 : decode cL_makeLink 31 = .ok (.iconst 0, 1) := by decide +kernel
theorem dL_makeLink_32 : decode cL_makeLink 32 = .ok (.ireturn, 1) := by decide +kernel
theorem dL_cloneFile_0 : decode cL_cloneFile 0 = .ok (.aload 4, 2) := by decide +kernel
theorem dL_cloneFile_2 : decode cL_cloneFile 2 = .ok (.iconst 0, 1) := by decide +kernel
theorem dL_cloneFile_3 : decode cL_cloneFile 3 = .ok (.aload_n 0, 1) := by decide +kernel
theorem dL_cloneFile_4 : decode cL_cloneFile 4 = .ok (.iload_n 1, 1) := by decide +kernel
theorem dL_cloneFile_5 : decode cL_cloneFile 5 = .ok (.iload_n 2, 1) := by decide +kernel
theorem dL_cloneFile_6 : decode cL_cloneFile 6 = .ok (.iload_n 3, 1) := by decide +kernel
theorem dL_cloneFile_7 : decode cL_cloneFile 7 = .ok (.invokevirtual 26, 3) := by decide +kernel
theorem dL_cloneFile_10 : decode cL_cloneFile 10 = .ok (.i2l, 1) := by decide +kernel
theorem dL_cloneFile_11 : decode cL_cloneFile 11 = .ok (.lastore, 1) := by decide +kernel
theorem dL_cloneFile_12 : decode cL_cloneFile 12 = .ok (.goto 15, 3) := by decide +kernel
theorem dL_cloneFile_15 : decode cL_cloneFile 15 = .ok (.astore 5, 2) := by decide +kernel
theorem dL_cloneFile_17 : decode cL_cloneFile 17 = .ok (.iconst 1, 1) := by decide +kernel
theorem dL_cloneFile_18 : decode cL_cloneFile 18 = .ok (.ireturn, 1) := by decide +kernel
theorem dL_cloneFile_19 : decode cL_cloneFile 19 = .ok (.astore 5, 2) := by decide +kernel
theorem dL_cloneFile_21 : decode cL_cloneFile 21 = .ok (.iconst 2, 1) := by decide +kernel
theorem dL_cloneFile_22 : decode cL_cloneFile 22 = .ok (.ireturn, 1) := by decide +kernel
theorem dL_cloneFile_23 : decode cL_cloneFile 23 = .ok (.astore 5, 2) := by decide +kernel
theorem dL_cloneFile_25 : decode cL_cloneFile 25 = .ok (.iconst 3, 1) := by decide +kernel
theorem dL_cloneFile_26 : decode cL_cloneFile 26 = .ok (.ireturn, 1) := by decide +kernel
theorem dL_cloneFile_27 : decode cL_cloneFile 27 = .ok (.iconst 0, 1) := by decide +kernel
theorem dL_cloneFile_28 : decode cL_cloneFile 28 = .ok (.ireturn, 1) := by decide +kernel
theorem dL_addName_0 : decode cL_addName 0 = .ok (.aload 4, 2) := by decide +kernel
theorem dL_addName_2 : decode cL_addName 2 = .ok (.iconst 0, 1) := by decide +kernel
theorem dL_addName_3 : decode cL_addName 3 = .ok (.aload_n 0, 1) := by decide +kernel
theorem dL_addName_4 : decode cL_addName 4 = .ok (.iload_n 1, 1) := by decide +kernel
theorem dL_addName_5 : decode cL_addName 5 = .ok (.iload_n 2, 1) := by decide +kernel
theorem dL_addName_6 : decode cL_addName 6 = .ok (.iload_n 3, 1) := by decide +kernel
theorem dL_addName_7 : decode cL_addName 7 = .ok (.invokevirtual 30, 3) := by decide +kernel
theorem dL_addName_10 : decode cL_addName 10 = .ok (.i2l, 1) := by decide +kernel
theorem dL_addName_11 : decode cL_addName 11 = .ok (.lastore, 1) := by decide +kernel
theorem dL_addName_12 : decode cL_addName 12 = .ok (.goto 15, 3) := by decide +kernel
theorem dL_addName_15 : decode cL_addName 15 = .ok (.astore 5, 2) := by decide +kernel
theorem dL_addName_17 : decode cL_addName 17 = .ok (.iconst 1, 1) := by decide +kernel
theorem dL_addName_18 : decode cL_addName 18 = .ok (.ireturn, 1) := by decide +kernel
theorem dL_addName_19 : decode cL_addName 19 = .ok (.astore 5, 2) := by decide +kernel
theorem dL_addName_21 : decode cL_addName 21 = .ok (.iconst 2, 1) := by decide +kernel
theorem dL_addName_22 : decode cL_addName 22 = .ok (.ireturn, 1) := by decide +kernel
theorem dL_addName_23 : decode cL_addName 23 = .ok (.astore 5, 2) := by decide +kernel
theorem dL_addName_25 : decode cL_addName 25 = .ok (.iconst 3, 1) := by decide +kernel
theorem dL_addName_26 : decode cL_addName 26 = .ok (.ireturn, 1) := by decide +kernel
theorem dL_addName_27 : decode cL_addName 27 = .ok (.iconst 0, 1) := by decide +kernel
theorem dL_addName_28 : decode cL_addName 28 = .ok (.ireturn, 1) := by decide +kernel
theorem dL_unlink_0 : decode cL_unlink 0 = .ok (.aload_n 3, 1) := by decide +kernel
theorem dL_unlink_1 : decode cL_unlink 1 = .ok (.iconst 0, 1) := by decide +kernel
theorem dL_unlink_2 : decode cL_unlink 2 = .ok (.aload_n 0, 1) := by decide +kernel
theorem dL_unlink_3 : decode cL_unlink 3 = .ok (.iload_n 1, 1) := by decide +kernel
theorem dL_unlink_4 : decode cL_unlink 4 = .ok (.iload_n 2, 1) := by decide +kernel
theorem dL_unlink_5 : decode cL_unlink 5 = .ok (.invokevirtual 33, 3) := by decide +kernel
theorem dL_unlink_8 : decode cL_unlink 8 = .ok (.i2l, 1) := by decide +kernel
theorem dL_unlink_9 : decode cL_unlink 9 = .ok (.lastore, 1) := by decide +kernel
theorem dL_unlink_10 : decode cL_unlink 10 = .ok (.goto 15, 3) := by decide +kernel
theorem dL_unlink_13 : decode cL_unlink 13 = .ok (.astore 4, 2) := by decide +kernel
theorem dL_unlink_15 : decode cL_unlink 15 = .ok (.iconst 1, 1) := by decide +kernel
theorem dL_unlink_16 : decode cL_unlink 16 = .ok (.ireturn, 1) := by decide +kernel
theorem dL_unlink_17 : decode cL_unlink 17 = .ok (.astore 4, 2) := by decide +kernel
theorem dL_unlink_19 : decode cL_unlink 19 = .ok (.iconst 2, 1) := by decide +kernel
theorem dL_unlink_20 : decode cL_unlink 20 = .ok (.ireturn, 1) := by decide +kernel
theorem dL_unlink_21 : decode cL_unlink 21 = .ok (.astore 4, 2) := by decide +kernel
theorem dL_unlink_23 : decode cL_unlink 23 = .ok (.iconst 3, 1) := by decide +kernel
theorem dL_unlink_24 : decode cL_unlink 24 = .ok (.ireturn, 1) := by decide +kernel
theorem dL_unlink_25 : decode cL_unlink 25 = .ok (.iconst 0, 1) := by decide +kernel
theorem dL_unlink_26 : decode cL_unlink 26 = .ok (.ireturn, 1) := by decide +kernel
theorem dL_removeFolder_0 : decode cL_removeFolder 0 = .ok (.aload_n 3, 1) := by decide +kernel
theorem dL_removeFolder_1 : decode cL_removeFolder 1 = .ok (.iconst 0, 1) := by decide +kernel
theorem dL_removeFolder_2 : decode cL_removeFolder 2 = .ok (.aload_n 0, 1) := by decide +kernel
theorem dL_removeFolder_3 : decode cL_removeFolder 3 = .ok (.iload_n 1, 1) := by decide +kernel
theorem dL_removeFolder_4 : decode cL_removeFolder 4 = .ok (.iload_n 2, 1) := by decide +kernel
theorem dL_removeFolder_5 : decode cL_removeFolder 5 = .ok (.invokevirtual 36, 3) := by decide +kernel
theorem dL_removeFolder_8 : decode cL_removeFolder 8 = .ok (.i2l, 1) := by decide +kernel
theorem dL_removeFolder_9 : decode cL_removeFolder 9 = .ok (.lastore, 1) := by decide +kernel
theorem dL_removeFolder_10 : decode cL_removeFolder 10 = .ok (.goto 15, 3) := by decide +kernel
theorem dL_removeFolder_13 : decode cL_removeFolder 13 = .ok (.astore 4, 2) := by decide +kernel
theorem dL_removeFolder_15 : decode cL_removeFolder 15 = .ok (.iconst 1, 1) := by decide +kernel
theorem dL_removeFolder_16 : decode cL_removeFolder 16 = .ok (.ireturn, 1) := by decide +kernel
theorem dL_removeFolder_17 : decode cL_removeFolder 17 = .ok (.astore 4, 2) := by decide +kernel
theorem dL_removeFolder_19 : decode cL_removeFolder 19 = .ok (.iconst 2, 1) := by decide +kernel
theorem dL_removeFolder_20 : decode cL_removeFolder 20 = .ok (.ireturn, 1) := by decide +kernel
theorem dL_removeFolder_21 : decode cL_removeFolder 21 = .ok (.astore 4, 2) := by decide +kernel
theorem dL_removeFolder_23 : decode cL_removeFolder 23 = .ok (.iconst 3, 1) := by decide +kernel
theorem dL_removeFolder_24 : decode cL_removeFolder 24 = .ok (.ireturn, 1) := by decide +kernel
theorem dL_removeFolder_25 : decode cL_removeFolder 25 = .ok (.iconst 0, 1) := by decide +kernel
theorem dL_removeFolder_26 : decode cL_removeFolder 26 = .ok (.ireturn, 1) := by decide +kernel
theorem dL_rename_0 : decode cL_rename 0 = .ok (.aload 5, 2) := by decide +kernel
theorem dL_rename_2 : decode cL_rename 2 = .ok (.iconst 0, 1) := by decide +kernel
theorem dL_rename_3 : decode cL_rename 3 = .ok (.aload_n 0, 1) := by decide +kernel
theorem dL_rename_4 : decode cL_rename 4 = .ok (.iload_n 1, 1) := by decide +kernel
theorem dL_rename_5 : decode cL_rename 5 = .ok (.iload_n 2, 1) := by decide +kernel
theorem dL_rename_6 : decode cL_rename 6 = .ok (.iload_n 3, 1) := by decide +kernel
theorem dL_rename_7 : decode cL_rename 7 = .ok (.iload 4, 2) := by decide +kernel
theorem dL_rename_9 : decode cL_rename 9 = .ok (.invokevirtual 39, 3) := by decide +kernel
theorem dL_rename_12 : decode cL_rename 12 = .ok (.i2l, 1) := by decide +kernel
theorem dL_rename_13 : decode cL_rename 13 = .ok (.lastore, 1) := by decide +kernel
theorem dL_rename_14 : decode cL_rename 14 = .ok (.goto 15, 3) := by decide +kernel
theorem dL_rename_17 : decode cL_rename 17 = .ok (.astore 6, 2) := by decide +kernel
theorem dL_rename_19 : decode cL_rename 19 = .ok (.iconst 1, 1) := by decide +kernel
theorem dL_rename_20 : decode cL_rename 20 = .ok (.ireturn, 1) := by decide +kernel
theorem dL_rename_21 : decode cL_rename 21 = .ok (.astore 6, 2) := by decide +kernel
theorem dL_rename_23 : decode cL_rename 23 = .ok (.iconst 2, 1) := by decide +kernel
theorem dL_rename_24 : decode cL_rename 24 = .ok (.ireturn, 1) := by decide +kernel
theorem dL_rename_25 : decode cL_rename 25 = .ok (.astore 6, 2) := by decide +kernel
theorem dL_rename_27 : decode cL_rename 27 = .ok (.iconst 3, 1) := by decide +kernel
theorem dL_rename_28 : decode cL_rename 28 = .ok (.ireturn, 1) := by decide +kernel
theorem dL_rename_29 : decode cL_rename 29 = .ok (.iconst 0, 1) := by decide +kernel
theorem dL_rename_30 : decode cL_rename 30 = .ok (.ireturn, 1) := by decide +kernel
theorem dL_exchange_0 : decode cL_exchange 0 = .ok (.aload 5, 2) := by decide +kernel
theorem dL_exchange_2 : decode cL_exchange 2 = .ok (.iconst 0, 1) := by decide +kernel
theorem dL_exchange_3 : decode cL_exchange 3 = .ok (.aload_n 0, 1) := by decide +kernel
theorem dL_exchange_4 : decode cL_exchange 4 = .ok (.iload_n 1, 1) := by decide +kernel
theorem dL_exchange_5 : decode cL_exchange 5 = .ok (.iload_n 2, 1) := by decide +kernel
theorem dL_exchange_6 : decode cL_exchange 6 = .ok (.iload_n 3, 1) := by decide +kernel
theorem dL_exchange_7 : decode cL_exchange 7 = .ok (.iload 4, 2) := by decide +kernel
theorem dL_exchange_9 : decode cL_exchange 9 = .ok (.invokevirtual 43, 3) := by decide +kernel
theorem dL_exchange_12 : decode cL_exchange 12 = .ok (.i2l, 1) := by decide +kernel
theorem dL_exchange_13 : decode cL_exchange 13 = .ok (.lastore, 1) := by decide +kernel
theorem dL_exchange_14 : decode cL_exchange 14 = .ok (.goto 15, 3) := by decide +kernel
theorem dL_exchange_17 : decode cL_exchange 17 = .ok (.astore 6, 2) := by decide +kernel
theorem dL_exchange_19 : decode cL_exchange 19 = .ok (.iconst 1, 1) := by decide +kernel
theorem dL_exchange_20 : decode cL_exchange 20 = .ok (.ireturn, 1) := by decide +kernel
theorem dL_exchange_21 : decode cL_exchange 21 = .ok (.astore 6, 2) := by decide +kernel
theorem dL_exchange_23 : decode cL_exchange 23 = .ok (.iconst 2, 1) := by decide +kernel
theorem dL_exchange_24 : decode cL_exchange 24 = .ok (.ireturn, 1) := by decide +kernel
theorem dL_exchange_25 : decode cL_exchange 25 = .ok (.astore 6, 2) := by decide +kernel
theorem dL_exchange_27 : decode cL_exchange 27 = .ok (.iconst 3, 1) := by decide +kernel
theorem dL_exchange_28 : decode cL_exchange 28 = .ok (.ireturn, 1) := by decide +kernel
theorem dL_exchange_29 : decode cL_exchange 29 = .ok (.iconst 0, 1) := by decide +kernel
theorem dL_exchange_30 : decode cL_exchange 30 = .ok (.ireturn, 1) := by decide +kernel
theorem dL_write_0 : decode cL_write 0 = .ok (.aload 4, 2) := by decide +kernel
theorem dL_write_2 : decode cL_write 2 = .ok (.iconst 0, 1) := by decide +kernel
theorem dL_write_3 : decode cL_write 3 = .ok (.aload_n 0, 1) := by decide +kernel
theorem dL_write_4 : decode cL_write 4 = .ok (.iload_n 1, 1) := by decide +kernel
theorem dL_write_5 : decode cL_write 5 = .ok (.iload_n 2, 1) := by decide +kernel
theorem dL_write_6 : decode cL_write 6 = .ok (.iload_n 3, 1) := by decide +kernel
theorem dL_write_7 : decode cL_write 7 = .ok (.invokevirtual 46, 3) := by decide +kernel
theorem dL_write_10 : decode cL_write 10 = .ok (.i2l, 1) := by decide +kernel
theorem dL_write_11 : decode cL_write 11 = .ok (.lastore, 1) := by decide +kernel
theorem dL_write_12 : decode cL_write 12 = .ok (.goto 15, 3) := by decide +kernel
theorem dL_write_15 : decode cL_write 15 = .ok (.astore 5, 2) := by decide +kernel
theorem dL_write_17 : decode cL_write 17 = .ok (.iconst 1, 1) := by decide +kernel
theorem dL_write_18 : decode cL_write 18 = .ok (.ireturn, 1) := by decide +kernel
theorem dL_write_19 : decode cL_write 19 = .ok (.astore 5, 2) := by decide +kernel
theorem dL_write_21 : decode cL_write 21 = .ok (.iconst 2, 1) := by decide +kernel
theorem dL_write_22 : decode cL_write 22 = .ok (.ireturn, 1) := by decide +kernel
theorem dL_write_23 : decode cL_write 23 = .ok (.astore 5, 2) := by decide +kernel
theorem dL_write_25 : decode cL_write 25 = .ok (.iconst 3, 1) := by decide +kernel
theorem dL_write_26 : decode cL_write 26 = .ok (.ireturn, 1) := by decide +kernel
theorem dL_write_27 : decode cL_write 27 = .ok (.iconst 0, 1) := by decide +kernel
theorem dL_write_28 : decode cL_write 28 = .ok (.ireturn, 1) := by decide +kernel
theorem dL_truncate_0 : decode cL_truncate 0 = .ok (.aload_n 3, 1) := by decide +kernel
theorem dL_truncate_1 : decode cL_truncate 1 = .ok (.iconst 0, 1) := by decide +kernel
theorem dL_truncate_2 : decode cL_truncate 2 = .ok (.aload_n 0, 1) := by decide +kernel
theorem dL_truncate_3 : decode cL_truncate 3 = .ok (.iload_n 1, 1) := by decide +kernel
theorem dL_truncate_4 : decode cL_truncate 4 = .ok (.iload_n 2, 1) := by decide +kernel
theorem dL_truncate_5 : decode cL_truncate 5 = .ok (.invokevirtual 49, 3) := by decide +kernel
theorem dL_truncate_8 : decode cL_truncate 8 = .ok (.i2l, 1) := by decide +kernel
theorem dL_truncate_9 : decode cL_truncate 9 = .ok (.lastore, 1) := by decide +kernel
theorem dL_truncate_10 : decode cL_truncate 10 = .ok (.goto 15, 3) := by decide +kernel
theorem dL_truncate_13 : decode cL_truncate 13 = .ok (.astore 4, 2) := by decide +kernel
theorem dL_truncate_15 : decode cL_truncate 15 = .ok (.iconst 1, 1) := by decide +kernel
theorem dL_truncate_16 : decode cL_truncate 16 = .ok (.ireturn, 1) := by decide +kernel
theorem dL_truncate_17 : decode cL_truncate 17 = .ok (.astore 4, 2) := by decide +kernel
theorem dL_truncate_19 : decode cL_truncate 19 = .ok (.iconst 2, 1) := by decide +kernel
theorem dL_truncate_20 : decode cL_truncate 20 = .ok (.ireturn, 1) := by decide +kernel
theorem dL_truncate_21 : decode cL_truncate 21 = .ok (.astore 4, 2) := by decide +kernel
theorem dL_truncate_23 : decode cL_truncate 23 = .ok (.iconst 3, 1) := by decide +kernel
theorem dL_truncate_24 : decode cL_truncate 24 = .ok (.ireturn, 1) := by decide +kernel
theorem dL_truncate_25 : decode cL_truncate 25 = .ok (.iconst 0, 1) := by decide +kernel
theorem dL_truncate_26 : decode cL_truncate 26 = .ok (.ireturn, 1) := by decide +kernel
theorem dL_punch_0 : decode cL_punch 0 = .ok (.aload_n 3, 1) := by decide +kernel
theorem dL_punch_1 : decode cL_punch 1 = .ok (.iconst 0, 1) := by decide +kernel
theorem dL_punch_2 : decode cL_punch 2 = .ok (.aload_n 0, 1) := by decide +kernel
theorem dL_punch_3 : decode cL_punch 3 = .ok (.iload_n 1, 1) := by decide +kernel
theorem dL_punch_4 : decode cL_punch 4 = .ok (.iload_n 2, 1) := by decide +kernel
theorem dL_punch_5 : decode cL_punch 5 = .ok (.invokevirtual 52, 3) := by decide +kernel
theorem dL_punch_8 : decode cL_punch 8 = .ok (.i2l, 1) := by decide +kernel
theorem dL_punch_9 : decode cL_punch 9 = .ok (.lastore, 1) := by decide +kernel
theorem dL_punch_10 : decode cL_punch 10 = .ok (.goto 15, 3) := by decide +kernel
theorem dL_punch_13 : decode cL_punch 13 = .ok (.astore 4, 2) := by decide +kernel
theorem dL_punch_15 : decode cL_punch 15 = .ok (.iconst 1, 1) := by decide +kernel
theorem dL_punch_16 : decode cL_punch 16 = .ok (.ireturn, 1) := by decide +kernel
theorem dL_punch_17 : decode cL_punch 17 = .ok (.astore 4, 2) := by decide +kernel
theorem dL_punch_19 : decode cL_punch 19 = .ok (.iconst 2, 1) := by decide +kernel
theorem dL_punch_20 : decode cL_punch 20 = .ok (.ireturn, 1) := by decide +kernel
theorem dL_punch_21 : decode cL_punch 21 = .ok (.astore 4, 2) := by decide +kernel
theorem dL_punch_23 : decode cL_punch 23 = .ok (.iconst 3, 1) := by decide +kernel
theorem dL_punch_24 : decode cL_punch 24 = .ok (.ireturn, 1) := by decide +kernel
theorem dL_punch_25 : decode cL_punch 25 = .ok (.iconst 0, 1) := by decide +kernel
theorem dL_punch_26 : decode cL_punch 26 = .ok (.ireturn, 1) := by decide +kernel
theorem dL_share_0 : decode cL_share 0 = .ok (.aload 5, 2) := by decide +kernel
theorem dL_share_2 : decode cL_share 2 = .ok (.iconst 0, 1) := by decide +kernel
theorem dL_share_3 : decode cL_share 3 = .ok (.aload_n 0, 1) := by decide +kernel
theorem dL_share_4 : decode cL_share 4 = .ok (.iload_n 1, 1) := by decide +kernel
theorem dL_share_5 : decode cL_share 5 = .ok (.iload_n 2, 1) := by decide +kernel
theorem dL_share_6 : decode cL_share 6 = .ok (.iload_n 3, 1) := by decide +kernel
theorem dL_share_7 : decode cL_share 7 = .ok (.iload 4, 2) := by decide +kernel
theorem dL_share_9 : decode cL_share 9 = .ok (.invokevirtual 55, 3) := by decide +kernel
theorem dL_share_12 : decode cL_share 12 = .ok (.i2l, 1) := by decide +kernel
theorem dL_share_13 : decode cL_share 13 = .ok (.lastore, 1) := by decide +kernel
theorem dL_share_14 : decode cL_share 14 = .ok (.goto 15, 3) := by decide +kernel
theorem dL_share_17 : decode cL_share 17 = .ok (.astore 6, 2) := by decide +kernel
theorem dL_share_19 : decode cL_share 19 = .ok (.iconst 1, 1) := by decide +kernel
theorem dL_share_20 : decode cL_share 20 = .ok (.ireturn, 1) := by decide +kernel
theorem dL_share_21 : decode cL_share 21 = .ok (.astore 6, 2) := by decide +kernel
theorem dL_share_23 : decode cL_share 23 = .ok (.iconst 2, 1) := by decide +kernel
theorem dL_share_24 : decode cL_share 24 = .ok (.ireturn, 1) := by decide +kernel
theorem dL_share_25 : decode cL_share 25 = .ok (.astore 6, 2) := by decide +kernel
theorem dL_share_27 : decode cL_share 27 = .ok (.iconst 3, 1) := by decide +kernel
theorem dL_share_28 : decode cL_share 28 = .ok (.ireturn, 1) := by decide +kernel
theorem dL_share_29 : decode cL_share 29 = .ok (.iconst 0, 1) := by decide +kernel
theorem dL_share_30 : decode cL_share 30 = .ok (.ireturn, 1) := by decide +kernel
theorem dL_setOwner_0 : decode cL_setOwner 0 = .ok (.aload_n 3, 1) := by decide +kernel
theorem dL_setOwner_1 : decode cL_setOwner 1 = .ok (.iconst 0, 1) := by decide +kernel
theorem dL_setOwner_2 : decode cL_setOwner 2 = .ok (.aload_n 0, 1) := by decide +kernel
theorem dL_setOwner_3 : decode cL_setOwner 3 = .ok (.iload_n 1, 1) := by decide +kernel
theorem dL_setOwner_4 : decode cL_setOwner 4 = .ok (.iload_n 2, 1) := by decide +kernel
theorem dL_setOwner_5 : decode cL_setOwner 5 = .ok (.invokevirtual 58, 3) := by decide +kernel
theorem dL_setOwner_8 : decode cL_setOwner 8 = .ok (.i2l, 1) := by decide +kernel
theorem dL_setOwner_9 : decode cL_setOwner 9 = .ok (.lastore, 1) := by decide +kernel
theorem dL_setOwner_10 : decode cL_setOwner 10 = .ok (.goto 15, 3) := by decide +kernel
theorem dL_setOwner_13 : decode cL_setOwner 13 = .ok (.astore 4, 2) := by decide +kernel
theorem dL_setOwner_15 : decode cL_setOwner 15 = .ok (.iconst 1, 1) := by decide +kernel
theorem dL_setOwner_16 : decode cL_setOwner 16 = .ok (.ireturn, 1) := by decide +kernel
theorem dL_setOwner_17 : decode cL_setOwner 17 = .ok (.astore 4, 2) := by decide +kernel
theorem dL_setOwner_19 : decode cL_setOwner 19 = .ok (.iconst 2, 1) := by decide +kernel
theorem dL_setOwner_20 : decode cL_setOwner 20 = .ok (.ireturn, 1) := by decide +kernel
theorem dL_setOwner_21 : decode cL_setOwner 21 = .ok (.astore 4, 2) := by decide +kernel
theorem dL_setOwner_23 : decode cL_setOwner 23 = .ok (.iconst 3, 1) := by decide +kernel
theorem dL_setOwner_24 : decode cL_setOwner 24 = .ok (.ireturn, 1) := by decide +kernel
theorem dL_setOwner_25 : decode cL_setOwner 25 = .ok (.iconst 0, 1) := by decide +kernel
theorem dL_setOwner_26 : decode cL_setOwner 26 = .ok (.ireturn, 1) := by decide +kernel
theorem dL_setQuota_0 : decode cL_setQuota 0 = .ok (.aload_n 3, 1) := by decide +kernel
theorem dL_setQuota_1 : decode cL_setQuota 1 = .ok (.iconst 0, 1) := by decide +kernel
theorem dL_setQuota_2 : decode cL_setQuota 2 = .ok (.aload_n 0, 1) := by decide +kernel
theorem dL_setQuota_3 : decode cL_setQuota 3 = .ok (.iload_n 1, 1) := by decide +kernel
theorem dL_setQuota_4 : decode cL_setQuota 4 = .ok (.iload_n 2, 1) := by decide +kernel
theorem dL_setQuota_5 : decode cL_setQuota 5 = .ok (.invokevirtual 61, 3) := by decide +kernel
theorem dL_setQuota_8 : decode cL_setQuota 8 = .ok (.i2l, 1) := by decide +kernel
theorem dL_setQuota_9 : decode cL_setQuota 9 = .ok (.lastore, 1) := by decide +kernel
theorem dL_setQuota_10 : decode cL_setQuota 10 = .ok (.goto 11, 3) := by decide +kernel
theorem dL_setQuota_13 : decode cL_setQuota 13 = .ok (.astore 4, 2) := by decide +kernel
theorem dL_setQuota_15 : decode cL_setQuota 15 = .ok (.iconst 1, 1) := by decide +kernel
theorem dL_setQuota_16 : decode cL_setQuota 16 = .ok (.ireturn, 1) := by decide +kernel
theorem dL_setQuota_17 : decode cL_setQuota 17 = .ok (.astore 4, 2) := by decide +kernel
theorem dL_setQuota_19 : decode cL_setQuota 19 = .ok (.iconst 2, 1) := by decide +kernel
theorem dL_setQuota_20 : decode cL_setQuota 20 = .ok (.ireturn, 1) := by decide +kernel
theorem dL_setQuota_21 : decode cL_setQuota 21 = .ok (.iconst 0, 1) := by decide +kernel
theorem dL_setQuota_22 : decode cL_setQuota 22 = .ok (.ireturn, 1) := by decide +kernel
theorem dL_open_0 : decode cL_open 0 = .ok (.aload_n 2, 1) := by decide +kernel
theorem dL_open_1 : decode cL_open 1 = .ok (.iconst 0, 1) := by decide +kernel
theorem dL_open_2 : decode cL_open 2 = .ok (.aload_n 0, 1) := by decide +kernel
theorem dL_open_3 : decode cL_open 3 = .ok (.iload_n 1, 1) := by decide +kernel
theorem dL_open_4 : decode cL_open 4 = .ok (.invokevirtual 64, 3) := by decide +kernel
theorem dL_open_7 : decode cL_open 7 = .ok (.i2l, 1) := by decide +kernel
theorem dL_open_8 : decode cL_open 8 = .ok (.lastore, 1) := by decide +kernel
theorem dL_open_9 : decode cL_open 9 = .ok (.goto 9, 3) := by decide +kernel
theorem dL_open_12 : decode cL_open 12 = .ok (.astore_n 3, 1) := by decide +kernel
theorem dL_open_13 : decode cL_open 13 = .ok (.iconst 1, 1) := by decide +kernel
theorem dL_open_14 : decode cL_open 14 = .ok (.ireturn, 1) := by decide +kernel
theorem dL_open_15 : decode cL_open 15 = .ok (.astore_n 3, 1) := by decide +kernel
theorem dL_open_16 : decode cL_open 16 = .ok (.iconst 2, 1) := by decide +kernel
theorem dL_open_17 : decode cL_open 17 = .ok (.ireturn, 1) := by decide +kernel
theorem dL_open_18 : decode cL_open 18 = .ok (.iconst 0, 1) := by decide +kernel
theorem dL_open_19 : decode cL_open 19 = .ok (.ireturn, 1) := by decide +kernel
theorem dL_close_0 : decode cL_close 0 = .ok (.aload_n 2, 1) := by decide +kernel
theorem dL_close_1 : decode cL_close 1 = .ok (.iconst 0, 1) := by decide +kernel
theorem dL_close_2 : decode cL_close 2 = .ok (.aload_n 0, 1) := by decide +kernel
theorem dL_close_3 : decode cL_close 3 = .ok (.iload_n 1, 1) := by decide +kernel
theorem dL_close_4 : decode cL_close 4 = .ok (.invokevirtual 68, 3) := by decide +kernel
theorem dL_close_7 : decode cL_close 7 = .ok (.i2l, 1) := by decide +kernel
theorem dL_close_8 : decode cL_close 8 = .ok (.lastore, 1) := by decide +kernel
theorem dL_close_9 : decode cL_close 9 = .ok (.goto 9, 3) := by decide +kernel
theorem dL_close_12 : decode cL_close 12 = .ok (.astore_n 3, 1) := by decide +kernel
theorem dL_close_13 : decode cL_close 13 = .ok (.iconst 1, 1) := by decide +kernel
theorem dL_close_14 : decode cL_close 14 = .ok (.ireturn, 1) := by decide +kernel
theorem dL_close_15 : decode cL_close 15 = .ok (.astore_n 3, 1) := by decide +kernel
theorem dL_close_16 : decode cL_close 16 = .ok (.iconst 2, 1) := by decide +kernel
theorem dL_close_17 : decode cL_close 17 = .ok (.ireturn, 1) := by decide +kernel
theorem dL_close_18 : decode cL_close 18 = .ok (.iconst 0, 1) := by decide +kernel
theorem dL_close_19 : decode cL_close 19 = .ok (.ireturn, 1) := by decide +kernel
theorem dL_seek_0 : decode cL_seek 0 = .ok (.aload_n 3, 1) := by decide +kernel
theorem dL_seek_1 : decode cL_seek 1 = .ok (.iconst 0, 1) := by decide +kernel
theorem dL_seek_2 : decode cL_seek 2 = .ok (.aload_n 0, 1) := by decide +kernel
theorem dL_seek_3 : decode cL_seek 3 = .ok (.iload_n 1, 1) := by decide +kernel
theorem dL_seek_4 : decode cL_seek 4 = .ok (.iload_n 2, 1) := by decide +kernel
theorem dL_seek_5 : decode cL_seek 5 = .ok (.invokevirtual 71, 3) := by decide +kernel
theorem dL_seek_8 : decode cL_seek 8 = .ok (.i2l, 1) := by decide +kernel
theorem dL_seek_9 : decode cL_seek 9 = .ok (.lastore, 1) := by decide +kernel
theorem dL_seek_10 : decode cL_seek 10 = .ok (.goto 15, 3) := by decide +kernel
theorem dL_seek_13 : decode cL_seek 13 = .ok (.astore 4, 2) := by decide +kernel
theorem dL_seek_15 : decode cL_seek 15 = .ok (.iconst 1, 1) := by decide +kernel
theorem dL_seek_16 : decode cL_seek 16 = .ok (.ireturn, 1) := by decide +kernel
theorem dL_seek_17 : decode cL_seek 17 = .ok (.astore 4, 2) := by decide +kernel
theorem dL_seek_19 : decode cL_seek 19 = .ok (.iconst 2, 1) := by decide +kernel
theorem dL_seek_20 : decode cL_seek 20 = .ok (.ireturn, 1) := by decide +kernel
theorem dL_seek_21 : decode cL_seek 21 = .ok (.astore 4, 2) := by decide +kernel
theorem dL_seek_23 : decode cL_seek 23 = .ok (.iconst 3, 1) := by decide +kernel
theorem dL_seek_24 : decode cL_seek 24 = .ok (.ireturn, 1) := by decide +kernel
theorem dL_seek_25 : decode cL_seek 25 = .ok (.iconst 0, 1) := by decide +kernel
theorem dL_seek_26 : decode cL_seek 26 = .ok (.ireturn, 1) := by decide +kernel
theorem dL_read_0 : decode cL_read 0 = .ok (.aload_n 3, 1) := by decide +kernel
theorem dL_read_1 : decode cL_read 1 = .ok (.iconst 0, 1) := by decide +kernel
theorem dL_read_2 : decode cL_read 2 = .ok (.aload_n 0, 1) := by decide +kernel
theorem dL_read_3 : decode cL_read 3 = .ok (.iload_n 1, 1) := by decide +kernel
theorem dL_read_4 : decode cL_read 4 = .ok (.iload_n 2, 1) := by decide +kernel
theorem dL_read_5 : decode cL_read 5 = .ok (.invokevirtual 74, 3) := by decide +kernel
theorem dL_read_8 : decode cL_read 8 = .ok (.i2l, 1) := by decide +kernel
theorem dL_read_9 : decode cL_read 9 = .ok (.lastore, 1) := by decide +kernel
theorem dL_read_10 : decode cL_read 10 = .ok (.goto 15, 3) := by decide +kernel
theorem dL_read_13 : decode cL_read 13 = .ok (.astore 4, 2) := by decide +kernel
theorem dL_read_15 : decode cL_read 15 = .ok (.iconst 1, 1) := by decide +kernel
theorem dL_read_16 : decode cL_read 16 = .ok (.ireturn, 1) := by decide +kernel
theorem dL_read_17 : decode cL_read 17 = .ok (.astore 4, 2) := by decide +kernel
theorem dL_read_19 : decode cL_read 19 = .ok (.iconst 2, 1) := by decide +kernel
theorem dL_read_20 : decode cL_read 20 = .ok (.ireturn, 1) := by decide +kernel
theorem dL_read_21 : decode cL_read 21 = .ok (.astore 4, 2) := by decide +kernel
theorem dL_read_23 : decode cL_read 23 = .ok (.iconst 3, 1) := by decide +kernel
theorem dL_read_24 : decode cL_read 24 = .ok (.ireturn, 1) := by decide +kernel
theorem dL_read_25 : decode cL_read 25 = .ok (.iconst 0, 1) := by decide +kernel
theorem dL_read_26 : decode cL_read 26 = .ok (.ireturn, 1) := by decide +kernel
theorem dL_lock_0 : decode cL_lock 0 = .ok (.aload 5, 2) := by decide +kernel
theorem dL_lock_2 : decode cL_lock 2 = .ok (.iconst 0, 1) := by decide +kernel
theorem dL_lock_3 : decode cL_lock 3 = .ok (.aload_n 0, 1) := by decide +kernel
theorem dL_lock_4 : decode cL_lock 4 = .ok (.iload_n 1, 1) := by decide +kernel
theorem dL_lock_5 : decode cL_lock 5 = .ok (.iload_n 2, 1) := by decide +kernel
theorem dL_lock_6 : decode cL_lock 6 = .ok (.iload_n 3, 1) := by decide +kernel
theorem dL_lock_7 : decode cL_lock 7 = .ok (.iload 4, 2) := by decide +kernel
theorem dL_lock_9 : decode cL_lock 9 = .ok (.invokevirtual 77, 3) := by decide +kernel
theorem dL_lock_12 : decode cL_lock 12 = .ok (.ifCond .eq 7, 3) := by decide +kernel
theorem dL_lock_15 : decode cL_lock 15 = .ok (.lconst 1, 1) := by decide +kernel
theorem dL_lock_16 : decode cL_lock 16 = .ok (.goto 4, 3) := by decide +kernel
theorem dL_lock_19 : decode cL_lock 19 = .ok (.lconst 0, 1) := by decide +kernel
theorem dL_lock_20 : decode cL_lock 20 = .ok (.lastore, 1) := by decide +kernel
theorem dL_lock_21 : decode cL_lock 21 = .ok (.goto 15, 3) := by decide +kernel
theorem dL_lock_24 : decode cL_lock 24 = .ok (.astore 6, 2) := by decide +kernel
theorem dL_lock_26 : decode cL_lock 26 = .ok (.iconst 1, 1) := by decide +kernel
theorem dL_lock_27 : decode cL_lock 27 = .ok (.ireturn, 1) := by decide +kernel
theorem dL_lock_28 : decode cL_lock 28 = .ok (.astore 6, 2) := by decide +kernel
theorem dL_lock_30 : decode cL_lock 30 = .ok (.iconst 2, 1) := by decide +kernel
theorem dL_lock_31 : decode cL_lock 31 = .ok (.ireturn, 1) := by decide +kernel
theorem dL_lock_32 : decode cL_lock 32 = .ok (.astore 6, 2) := by decide +kernel
theorem dL_lock_34 : decode cL_lock 34 = .ok (.iconst 3, 1) := by decide +kernel
theorem dL_lock_35 : decode cL_lock 35 = .ok (.ireturn, 1) := by decide +kernel
theorem dL_lock_36 : decode cL_lock 36 = .ok (.iconst 0, 1) := by decide +kernel
theorem dL_lock_37 : decode cL_lock 37 = .ok (.ireturn, 1) := by decide +kernel
theorem dL_unlock_0 : decode cL_unlock 0 = .ok (.aload 4, 2) := by decide +kernel
theorem dL_unlock_2 : decode cL_unlock 2 = .ok (.iconst 0, 1) := by decide +kernel
theorem dL_unlock_3 : decode cL_unlock 3 = .ok (.aload_n 0, 1) := by decide +kernel
theorem dL_unlock_4 : decode cL_unlock 4 = .ok (.iload_n 1, 1) := by decide +kernel
theorem dL_unlock_5 : decode cL_unlock 5 = .ok (.iload_n 2, 1) := by decide +kernel
theorem dL_unlock_6 : decode cL_unlock 6 = .ok (.iload_n 3, 1) := by decide +kernel
theorem dL_unlock_7 : decode cL_unlock 7 = .ok (.invokevirtual 81, 3) := by decide +kernel
theorem dL_unlock_10 : decode cL_unlock 10 = .ok (.i2l, 1) := by decide +kernel
theorem dL_unlock_11 : decode cL_unlock 11 = .ok (.lastore, 1) := by decide +kernel
theorem dL_unlock_12 : decode cL_unlock 12 = .ok (.goto 15, 3) := by decide +kernel
theorem dL_unlock_15 : decode cL_unlock 15 = .ok (.astore 5, 2) := by decide +kernel
theorem dL_unlock_17 : decode cL_unlock 17 = .ok (.iconst 1, 1) := by decide +kernel
theorem dL_unlock_18 : decode cL_unlock 18 = .ok (.ireturn, 1) := by decide +kernel
theorem dL_unlock_19 : decode cL_unlock 19 = .ok (.astore 5, 2) := by decide +kernel
theorem dL_unlock_21 : decode cL_unlock 21 = .ok (.iconst 2, 1) := by decide +kernel
theorem dL_unlock_22 : decode cL_unlock 22 = .ok (.ireturn, 1) := by decide +kernel
theorem dL_unlock_23 : decode cL_unlock 23 = .ok (.astore 5, 2) := by decide +kernel
theorem dL_unlock_25 : decode cL_unlock 25 = .ok (.iconst 3, 1) := by decide +kernel
theorem dL_unlock_26 : decode cL_unlock 26 = .ok (.ireturn, 1) := by decide +kernel
theorem dL_unlock_27 : decode cL_unlock 27 = .ok (.iconst 0, 1) := by decide +kernel
theorem dL_unlock_28 : decode cL_unlock 28 = .ok (.ireturn, 1) := by decide +kernel
theorem dL_whoHinders_0 : decode cL_whoHinders 0 = .ok (.aload 5, 2) := by decide +kernel
theorem dL_whoHinders_2 : decode cL_whoHinders 2 = .ok (.iconst 0, 1) := by decide +kernel
theorem dL_whoHinders_3 : decode cL_whoHinders 3 = .ok (.aload_n 0, 1) := by decide +kernel
theorem dL_whoHinders_4 : decode cL_whoHinders 4 = .ok (.iload_n 1, 1) := by decide +kernel
theorem dL_whoHinders_5 : decode cL_whoHinders 5 = .ok (.iload_n 2, 1) := by decide +kernel
theorem dL_whoHinders_6 : decode cL_whoHinders 6 = .ok (.iload_n 3, 1) := by decide +kernel
theorem dL_whoHinders_7 : decode cL_whoHinders 7 = .ok (.iload 4, 2) := by decide +kernel
theorem dL_whoHinders_9 : decode cL_whoHinders 9 = .ok (.invokevirtual 84, 3) := by decide +kernel
theorem dL_whoHinders_12 : decode cL_whoHinders 12 = .ok (.i2l, 1) := by decide +kernel
theorem dL_whoHinders_13 : decode cL_whoHinders 13 = .ok (.lastore, 1) := by decide +kernel
theorem dL_whoHinders_14 : decode cL_whoHinders 14 = .ok (.goto 15, 3) := by decide +kernel
theorem dL_whoHinders_17 : decode cL_whoHinders 17 = .ok (.astore 6, 2) := by decide +kernel
theorem dL_whoHinders_19 : decode cL_whoHinders 19 = .ok (.iconst 1, 1) := by decide +kernel
theorem dL_whoHinders_20 : decode cL_whoHinders 20 = .ok (.ireturn, 1) := by decide +kernel
theorem dL_whoHinders_21 : decode cL_whoHinders 21 = .ok (.astore 6, 2) := by decide +kernel
theorem dL_whoHinders_23 : decode cL_whoHinders 23 = .ok (.iconst 2, 1) := by decide +kernel
theorem dL_whoHinders_24 : decode cL_whoHinders 24 = .ok (.ireturn, 1) := by decide +kernel
theorem dL_whoHinders_25 : decode cL_whoHinders 25 = .ok (.astore 6, 2) := by decide +kernel
theorem dL_whoHinders_27 : decode cL_whoHinders 27 = .ok (.iconst 3, 1) := by decide +kernel
theorem dL_whoHinders_28 : decode cL_whoHinders 28 = .ok (.ireturn, 1) := by decide +kernel
theorem dL_whoHinders_29 : decode cL_whoHinders 29 = .ok (.iconst 0, 1) := by decide +kernel
theorem dL_whoHinders_30 : decode cL_whoHinders 30 = .ok (.ireturn, 1) := by decide +kernel
theorem dL_lockRows_0 : decode cL_lockRows 0 = .ok (.aload_n 2, 1) := by decide +kernel
theorem dL_lockRows_1 : decode cL_lockRows 1 = .ok (.iconst 0, 1) := by decide +kernel
theorem dL_lockRows_2 : decode cL_lockRows 2 = .ok (.aload_n 0, 1) := by decide +kernel
theorem dL_lockRows_3 : decode cL_lockRows 3 = .ok (.iload_n 1, 1) := by decide +kernel
theorem dL_lockRows_4 : decode cL_lockRows 4 = .ok (.invokevirtual 88, 3) := by decide +kernel
theorem dL_lockRows_7 : decode cL_lockRows 7 = .ok (.i2l, 1) := by decide +kernel
theorem dL_lockRows_8 : decode cL_lockRows 8 = .ok (.lastore, 1) := by decide +kernel
theorem dL_lockRows_9 : decode cL_lockRows 9 = .ok (.goto 9, 3) := by decide +kernel
theorem dL_lockRows_12 : decode cL_lockRows 12 = .ok (.astore_n 3, 1) := by decide +kernel
theorem dL_lockRows_13 : decode cL_lockRows 13 = .ok (.iconst 1, 1) := by decide +kernel
theorem dL_lockRows_14 : decode cL_lockRows 14 = .ok (.ireturn, 1) := by decide +kernel
theorem dL_lockRows_15 : decode cL_lockRows 15 = .ok (.astore_n 3, 1) := by decide +kernel
theorem dL_lockRows_16 : decode cL_lockRows 16 = .ok (.iconst 2, 1) := by decide +kernel
theorem dL_lockRows_17 : decode cL_lockRows 17 = .ok (.ireturn, 1) := by decide +kernel
theorem dL_lockRows_18 : decode cL_lockRows 18 = .ok (.iconst 0, 1) := by decide +kernel
theorem dL_lockRows_19 : decode cL_lockRows 19 = .ok (.ireturn, 1) := by decide +kernel
theorem dL_lockAt_0 : decode cL_lockAt 0 = .ok (.aload_n 3, 1) := by decide +kernel
theorem dL_lockAt_1 : decode cL_lockAt 1 = .ok (.iconst 0, 1) := by decide +kernel
theorem dL_lockAt_2 : decode cL_lockAt 2 = .ok (.aload_n 0, 1) := by decide +kernel
theorem dL_lockAt_3 : decode cL_lockAt 3 = .ok (.iload_n 1, 1) := by decide +kernel
theorem dL_lockAt_4 : decode cL_lockAt 4 = .ok (.iload_n 2, 1) := by decide +kernel
theorem dL_lockAt_5 : decode cL_lockAt 5 = .ok (.invokevirtual 91, 3) := by decide +kernel
theorem dL_lockAt_8 : decode cL_lockAt 8 = .ok (.i2l, 1) := by decide +kernel
theorem dL_lockAt_9 : decode cL_lockAt 9 = .ok (.lastore, 1) := by decide +kernel
theorem dL_lockAt_10 : decode cL_lockAt 10 = .ok (.goto 15, 3) := by decide +kernel
theorem dL_lockAt_13 : decode cL_lockAt 13 = .ok (.astore 4, 2) := by decide +kernel
theorem dL_lockAt_15 : decode cL_lockAt 15 = .ok (.iconst 1, 1) := by decide +kernel
theorem dL_lockAt_16 : decode cL_lockAt 16 = .ok (.ireturn, 1) := by decide +kernel
theorem dL_lockAt_17 : decode cL_lockAt 17 = .ok (.astore 4, 2) := by decide +kernel
theorem dL_lockAt_19 : decode cL_lockAt 19 = .ok (.iconst 2, 1) := by decide +kernel
theorem dL_lockAt_20 : decode cL_lockAt 20 = .ok (.ireturn, 1) := by decide +kernel
theorem dL_lockAt_21 : decode cL_lockAt 21 = .ok (.astore 4, 2) := by decide +kernel
theorem dL_lockAt_23 : decode cL_lockAt 23 = .ok (.iconst 3, 1) := by decide +kernel
theorem dL_lockAt_24 : decode cL_lockAt 24 = .ok (.ireturn, 1) := by decide +kernel
theorem dL_lockAt_25 : decode cL_lockAt 25 = .ok (.iconst 0, 1) := by decide +kernel
theorem dL_lockAt_26 : decode cL_lockAt 26 = .ok (.ireturn, 1) := by decide +kernel
theorem dL_nodeOf_0 : decode cL_nodeOf 0 = .ok (.aload_n 2, 1) := by decide +kernel
theorem dL_nodeOf_1 : decode cL_nodeOf 1 = .ok (.iconst 0, 1) := by decide +kernel
theorem dL_nodeOf_2 : decode cL_nodeOf 2 = .ok (.aload_n 0, 1) := by decide +kernel
theorem dL_nodeOf_3 : decode cL_nodeOf 3 = .ok (.iload_n 1, 1) := by decide +kernel
theorem dL_nodeOf_4 : decode cL_nodeOf 4 = .ok (.invokevirtual 94, 3) := by decide +kernel
theorem dL_nodeOf_7 : decode cL_nodeOf 7 = .ok (.i2l, 1) := by decide +kernel
theorem dL_nodeOf_8 : decode cL_nodeOf 8 = .ok (.lastore, 1) := by decide +kernel
theorem dL_nodeOf_9 : decode cL_nodeOf 9 = .ok (.goto 9, 3) := by decide +kernel
theorem dL_nodeOf_12 : decode cL_nodeOf 12 = .ok (.astore_n 3, 1) := by decide +kernel
theorem dL_nodeOf_13 : decode cL_nodeOf 13 = .ok (.iconst 1, 1) := by decide +kernel
theorem dL_nodeOf_14 : decode cL_nodeOf 14 = .ok (.ireturn, 1) := by decide +kernel
theorem dL_nodeOf_15 : decode cL_nodeOf 15 = .ok (.astore_n 3, 1) := by decide +kernel
theorem dL_nodeOf_16 : decode cL_nodeOf 16 = .ok (.iconst 2, 1) := by decide +kernel
theorem dL_nodeOf_17 : decode cL_nodeOf 17 = .ok (.ireturn, 1) := by decide +kernel
theorem dL_nodeOf_18 : decode cL_nodeOf 18 = .ok (.iconst 0, 1) := by decide +kernel
theorem dL_nodeOf_19 : decode cL_nodeOf 19 = .ok (.ireturn, 1) := by decide +kernel
theorem dL_positionOf_0 : decode cL_positionOf 0 = .ok (.aload_n 2, 1) := by decide +kernel
theorem dL_positionOf_1 : decode cL_positionOf 1 = .ok (.iconst 0, 1) := by decide +kernel
theorem dL_positionOf_2 : decode cL_positionOf 2 = .ok (.aload_n 0, 1) := by decide +kernel
theorem dL_positionOf_3 : decode cL_positionOf 3 = .ok (.iload_n 1, 1) := by decide +kernel
theorem dL_positionOf_4 : decode cL_positionOf 4 = .ok (.invokevirtual 97, 3) := by decide +kernel
theorem dL_positionOf_7 : decode cL_positionOf 7 = .ok (.i2l, 1) := by decide +kernel
theorem dL_positionOf_8 : decode cL_positionOf 8 = .ok (.lastore, 1) := by decide +kernel
theorem dL_positionOf_9 : decode cL_positionOf 9 = .ok (.goto 9, 3) := by decide +kernel
theorem dL_positionOf_12 : decode cL_positionOf 12 = .ok (.astore_n 3, 1) := by decide +kernel
theorem dL_positionOf_13 : decode cL_positionOf 13 = .ok (.iconst 1, 1) := by decide +kernel
theorem dL_positionOf_14 : decode cL_positionOf 14 = .ok (.ireturn, 1) := by decide +kernel
theorem dL_positionOf_15 : decode cL_positionOf 15 = .ok (.astore_n 3, 1) := by decide +kernel
theorem dL_positionOf_16 : decode cL_positionOf 16 = .ok (.iconst 2, 1) := by decide +kernel
theorem dL_positionOf_17 : decode cL_positionOf 17 = .ok (.ireturn, 1) := by decide +kernel
theorem dL_positionOf_18 : decode cL_positionOf 18 = .ok (.iconst 0, 1) := by decide +kernel
theorem dL_positionOf_19 : decode cL_positionOf 19 = .ok (.ireturn, 1) := by decide +kernel
theorem dL_handles_0 : decode cL_handles 0 = .ok (.aload_n 1, 1) := by decide +kernel
theorem dL_handles_1 : decode cL_handles 1 = .ok (.iconst 0, 1) := by decide +kernel
theorem dL_handles_2 : decode cL_handles 2 = .ok (.aload_n 0, 1) := by decide +kernel
theorem dL_handles_3 : decode cL_handles 3 = .ok (.invokevirtual 100, 3) := by decide +kernel
theorem dL_handles_6 : decode cL_handles 6 = .ok (.i2l, 1) := by decide +kernel
theorem dL_handles_7 : decode cL_handles 7 = .ok (.lastore, 1) := by decide +kernel
theorem dL_handles_8 : decode cL_handles 8 = .ok (.goto 6, 3) := by decide +kernel
theorem dL_handles_11 : decode cL_handles 11 = .ok (.astore_n 2, 1) := by decide +kernel
theorem dL_handles_12 : decode cL_handles 12 = .ok (.iconst 1, 1) := by decide +kernel
theorem dL_handles_13 : decode cL_handles 13 = .ok (.ireturn, 1) := by decide +kernel
theorem dL_handles_14 : decode cL_handles 14 = .ok (.iconst 0, 1) := by decide +kernel
theorem dL_handles_15 : decode cL_handles 15 = .ok (.ireturn, 1) := by decide +kernel
theorem dL_sync_0 : decode cL_sync 0 = .ok (.aload_n 1, 1) := by decide +kernel
theorem dL_sync_1 : decode cL_sync 1 = .ok (.iconst 0, 1) := by decide +kernel
theorem dL_sync_2 : decode cL_sync 2 = .ok (.aload_n 0, 1) := by decide +kernel
theorem dL_sync_3 : decode cL_sync 3 = .ok (.invokevirtual 104, 3) := by decide +kernel
theorem dL_sync_6 : decode cL_sync 6 = .ok (.ifCond .eq 7, 3) := by decide +kernel
theorem dL_sync_9 : decode cL_sync 9 = .ok (.lconst 1, 1) := by decide +kernel
theorem dL_sync_10 : decode cL_sync 10 = .ok (.goto 4, 3) := by decide +kernel
theorem dL_sync_13 : decode cL_sync 13 = .ok (.lconst 0, 1) := by decide +kernel
theorem dL_sync_14 : decode cL_sync 14 = .ok (.lastore, 1) := by decide +kernel
theorem dL_sync_15 : decode cL_sync 15 = .ok (.goto 6, 3) := by decide +kernel
theorem dL_sync_18 : decode cL_sync 18 = .ok (.astore_n 2, 1) := by decide +kernel
theorem dL_sync_19 : decode cL_sync 19 = .ok (.iconst 1, 1) := by decide +kernel
theorem dL_sync_20 : decode cL_sync 20 = .ok (.ireturn, 1) := by decide +kernel
theorem dL_sync_21 : decode cL_sync 21 = .ok (.iconst 0, 1) := by decide +kernel
theorem dL_sync_22 : decode cL_sync 22 = .ok (.ireturn, 1) := by decide +kernel
theorem dL_flush_0 : decode cL_flush 0 = .ok (.aload_n 1, 1) := by decide +kernel
theorem dL_flush_1 : decode cL_flush 1 = .ok (.iconst 0, 1) := by decide +kernel
theorem dL_flush_2 : decode cL_flush 2 = .ok (.aload_n 0, 1) := by decide +kernel
theorem dL_flush_3 : decode cL_flush 3 = .ok (.invokevirtual 108, 3) := by decide +kernel
theorem dL_flush_6 : decode cL_flush 6 = .ok (.ifCond .eq 7, 3) := by decide +kernel
theorem dL_flush_9 : decode cL_flush 9 = .ok (.lconst 1, 1) := by decide +kernel
theorem dL_flush_10 : decode cL_flush 10 = .ok (.goto 4, 3) := by decide +kernel
theorem dL_flush_13 : decode cL_flush 13 = .ok (.lconst 0, 1) := by decide +kernel
theorem dL_flush_14 : decode cL_flush 14 = .ok (.lastore, 1) := by decide +kernel
theorem dL_flush_15 : decode cL_flush 15 = .ok (.goto 6, 3) := by decide +kernel
theorem dL_flush_18 : decode cL_flush 18 = .ok (.astore_n 2, 1) := by decide +kernel
theorem dL_flush_19 : decode cL_flush 19 = .ok (.iconst 1, 1) := by decide +kernel
theorem dL_flush_20 : decode cL_flush 20 = .ok (.ireturn, 1) := by decide +kernel
theorem dL_flush_21 : decode cL_flush 21 = .ok (.iconst 0, 1) := by decide +kernel
theorem dL_flush_22 : decode cL_flush 22 = .ok (.ireturn, 1) := by decide +kernel
theorem dL_writeBack_0 : decode cL_writeBack 0 = .ok (.aload_n 0, 1) := by decide +kernel
theorem dL_writeBack_1 : decode cL_writeBack 1 = .ok (.iload_n 1, 1) := by decide +kernel
theorem dL_writeBack_2 : decode cL_writeBack 2 = .ok (.iload_n 2, 1) := by decide +kernel
theorem dL_writeBack_3 : decode cL_writeBack 3 = .ok (.invokevirtual 111, 3) := by decide +kernel
theorem dL_writeBack_6 : decode cL_writeBack 6 = .ok (.goto 9, 3) := by decide +kernel
theorem dL_writeBack_9 : decode cL_writeBack 9 = .ok (.astore_n 3, 1) := by decide +kernel
theorem dL_writeBack_10 : decode cL_writeBack 10 = .ok (.iconst 1, 1) := by decide +kernel
theorem dL_writeBack_11 : decode cL_writeBack 11 = .ok (.ireturn, 1) := by decide +kernel
theorem dL_writeBack_12 : decode cL_writeBack 12 = .ok (.astore_n 3, 1) := by decide +kernel
theorem dL_writeBack_13 : decode cL_writeBack 13 = .ok (.iconst 2, 1) := by decide +kernel
theorem dL_writeBack_14 : decode cL_writeBack 14 = .ok (.ireturn, 1) := by decide +kernel
theorem dL_writeBack_15 : decode cL_writeBack 15 = .ok (.iconst 0, 1) := by decide +kernel
theorem dL_writeBack_16 : decode cL_writeBack 16 = .ok (.ireturn, 1) := by decide +kernel
theorem dL_cut_0 : decode cL_cut 0 = .ok (.aload_n 0, 1) := by decide +kernel
theorem dL_cut_1 : decode cL_cut 1 = .ok (.invokevirtual 115, 3) := by decide +kernel
theorem dL_cut_4 : decode cL_cut 4 = .ok (.goto 6, 3) := by decide +kernel
theorem dL_cut_7 : decode cL_cut 7 = .ok (.astore_n 1, 1) := by decide +kernel
theorem dL_cut_8 : decode cL_cut 8 = .ok (.iconst 1, 1) := by decide +kernel
theorem dL_cut_9 : decode cL_cut 9 = .ok (.ireturn, 1) := by decide +kernel
theorem dL_cut_10 : decode cL_cut 10 = .ok (.iconst 0, 1) := by decide +kernel
theorem dL_cut_11 : decode cL_cut 11 = .ok (.ireturn, 1) := by decide +kernel
theorem dL_fail_0 : decode cL_fail 0 = .ok (.aload_n 0, 1) := by decide +kernel
theorem dL_fail_1 : decode cL_fail 1 = .ok (.iload_n 1, 1) := by decide +kernel
theorem dL_fail_2 : decode cL_fail 2 = .ok (.iload_n 2, 1) := by decide +kernel
theorem dL_fail_3 : decode cL_fail 3 = .ok (.iload_n 3, 1) := by decide +kernel
theorem dL_fail_4 : decode cL_fail 4 = .ok (.invokevirtual 118, 3) := by decide +kernel
theorem dL_fail_7 : decode cL_fail 7 = .ok (.goto 7, 3) := by decide +kernel
theorem dL_fail_10 : decode cL_fail 10 = .ok (.astore 4, 2) := by decide +kernel
theorem dL_fail_12 : decode cL_fail 12 = .ok (.iconst 1, 1) := by decide +kernel
theorem dL_fail_13 : decode cL_fail 13 = .ok (.ireturn, 1) := by decide +kernel
theorem dL_fail_14 : decode cL_fail 14 = .ok (.iconst 0, 1) := by decide +kernel
theorem dL_fail_15 : decode cL_fail 15 = .ok (.ireturn, 1) := by decide +kernel
theorem dL_mount_0 : decode cL_mount 0 = .ok (.aload_n 1, 1) := by decide +kernel
theorem dL_mount_1 : decode cL_mount 1 = .ok (.iconst 0, 1) := by decide +kernel
theorem dL_mount_2 : decode cL_mount 2 = .ok (.aload_n 0, 1) := by decide +kernel
theorem dL_mount_3 : decode cL_mount 3 = .ok (.invokevirtual 122, 3) := by decide +kernel
theorem dL_mount_6 : decode cL_mount 6 = .ok (.i2l, 1) := by decide +kernel
theorem dL_mount_7 : decode cL_mount 7 = .ok (.lastore, 1) := by decide +kernel
theorem dL_mount_8 : decode cL_mount 8 = .ok (.goto 6, 3) := by decide +kernel
theorem dL_mount_11 : decode cL_mount 11 = .ok (.astore_n 2, 1) := by decide +kernel
theorem dL_mount_12 : decode cL_mount 12 = .ok (.iconst 1, 1) := by decide +kernel
theorem dL_mount_13 : decode cL_mount 13 = .ok (.ireturn, 1) := by decide +kernel
theorem dL_mount_14 : decode cL_mount 14 = .ok (.iconst 0, 1) := by decide +kernel
theorem dL_mount_15 : decode cL_mount 15 = .ok (.ireturn, 1) := by decide +kernel
theorem dL_waiting_0 : decode cL_waiting 0 = .ok (.aload_n 1, 1) := by decide +kernel
theorem dL_waiting_1 : decode cL_waiting 1 = .ok (.iconst 0, 1) := by decide +kernel
theorem dL_waiting_2 : decode cL_waiting 2 = .ok (.aload_n 0, 1) := by decide +kernel
theorem dL_waiting_3 : decode cL_waiting 3 = .ok (.invokevirtual 125, 3) := by decide +kernel
theorem dL_waiting_6 : decode cL_waiting 6 = .ok (.i2l, 1) := by decide +kernel
theorem dL_waiting_7 : decode cL_waiting 7 = .ok (.lastore, 1) := by decide +kernel
theorem dL_waiting_8 : decode cL_waiting 8 = .ok (.goto 6, 3) := by decide +kernel
theorem dL_waiting_11 : decode cL_waiting 11 = .ok (.astore_n 2, 1) := by decide +kernel
theorem dL_waiting_12 : decode cL_waiting 12 = .ok (.iconst 1, 1) := by decide +kernel
theorem dL_waiting_13 : decode cL_waiting 13 = .ok (.ireturn, 1) := by decide +kernel
theorem dL_waiting_14 : decode cL_waiting 14 = .ok (.iconst 0, 1) := by decide +kernel
theorem dL_waiting_15 : decode cL_waiting 15 = .ok (.ireturn, 1) := by decide +kernel
theorem dL_changes_0 : decode cL_changes 0 = .ok (.aload_n 1, 1) := by decide +kernel
theorem dL_changes_1 : decode cL_changes 1 = .ok (.iconst 0, 1) := by decide +kernel
theorem dL_changes_2 : decode cL_changes 2 = .ok (.aload_n 0, 1) := by decide +kernel
theorem dL_changes_3 : decode cL_changes 3 = .ok (.invokevirtual 128, 3) := by decide +kernel
theorem dL_changes_6 : decode cL_changes 6 = .ok (.i2l, 1) := by decide +kernel
theorem dL_changes_7 : decode cL_changes 7 = .ok (.lastore, 1) := by decide +kernel
theorem dL_changes_8 : decode cL_changes 8 = .ok (.goto 6, 3) := by decide +kernel
theorem dL_changes_11 : decode cL_changes 11 = .ok (.astore_n 2, 1) := by decide +kernel
theorem dL_changes_12 : decode cL_changes 12 = .ok (.iconst 1, 1) := by decide +kernel
theorem dL_changes_13 : decode cL_changes 13 = .ok (.ireturn, 1) := by decide +kernel
theorem dL_changes_14 : decode cL_changes 14 = .ok (.iconst 0, 1) := by decide +kernel
theorem dL_changes_15 : decode cL_changes 15 = .ok (.ireturn, 1) := by decide +kernel
theorem dL_nodes_0 : decode cL_nodes 0 = .ok (.aload_n 1, 1) := by decide +kernel
theorem dL_nodes_1 : decode cL_nodes 1 = .ok (.iconst 0, 1) := by decide +kernel
theorem dL_nodes_2 : decode cL_nodes 2 = .ok (.aload_n 0, 1) := by decide +kernel
theorem dL_nodes_3 : decode cL_nodes 3 = .ok (.invokevirtual 131, 3) := by decide +kernel
theorem dL_nodes_6 : decode cL_nodes 6 = .ok (.i2l, 1) := by decide +kernel
theorem dL_nodes_7 : decode cL_nodes 7 = .ok (.lastore, 1) := by decide +kernel
theorem dL_nodes_8 : decode cL_nodes 8 = .ok (.goto 6, 3) := by decide +kernel
theorem dL_nodes_11 : decode cL_nodes 11 = .ok (.astore_n 2, 1) := by decide +kernel
theorem dL_nodes_12 : decode cL_nodes 12 = .ok (.iconst 1, 1) := by decide +kernel
theorem dL_nodes_13 : decode cL_nodes 13 = .ok (.ireturn, 1) := by decide +kernel
theorem dL_nodes_14 : decode cL_nodes 14 = .ok (.iconst 0, 1) := by decide +kernel
theorem dL_nodes_15 : decode cL_nodes 15 = .ok (.ireturn, 1) := by decide +kernel
theorem dL_typeOf_0 : decode cL_typeOf 0 = .ok (.aload_n 2, 1) := by decide +kernel
theorem dL_typeOf_1 : decode cL_typeOf 1 = .ok (.iconst 0, 1) := by decide +kernel
theorem dL_typeOf_2 : decode cL_typeOf 2 = .ok (.aload_n 0, 1) := by decide +kernel
theorem dL_typeOf_3 : decode cL_typeOf 3 = .ok (.iload_n 1, 1) := by decide +kernel
theorem dL_typeOf_4 : decode cL_typeOf 4 = .ok (.invokevirtual 134, 3) := by decide +kernel
theorem dL_typeOf_7 : decode cL_typeOf 7 = .ok (.i2l, 1) := by decide +kernel
theorem dL_typeOf_8 : decode cL_typeOf 8 = .ok (.lastore, 1) := by decide +kernel
theorem dL_typeOf_9 : decode cL_typeOf 9 = .ok (.goto 6, 3) := by decide +kernel
theorem dL_typeOf_12 : decode cL_typeOf 12 = .ok (.astore_n 3, 1) := by decide +kernel
theorem dL_typeOf_13 : decode cL_typeOf 13 = .ok (.iconst 1, 1) := by decide +kernel
theorem dL_typeOf_14 : decode cL_typeOf 14 = .ok (.ireturn, 1) := by decide +kernel
theorem dL_typeOf_15 : decode cL_typeOf 15 = .ok (.iconst 0, 1) := by decide +kernel
theorem dL_typeOf_16 : decode cL_typeOf 16 = .ok (.ireturn, 1) := by decide +kernel
theorem dL_linksOf_0 : decode cL_linksOf 0 = .ok (.aload_n 2, 1) := by decide +kernel
theorem dL_linksOf_1 : decode cL_linksOf 1 = .ok (.iconst 0, 1) := by decide +kernel
theorem dL_linksOf_2 : decode cL_linksOf 2 = .ok (.aload_n 0, 1) := by decide +kernel
theorem dL_linksOf_3 : decode cL_linksOf 3 = .ok (.iload_n 1, 1) := by decide +kernel
theorem dL_linksOf_4 : decode cL_linksOf 4 = .ok (.invokevirtual 137, 3) := by decide +kernel
theorem dL_linksOf_7 : decode cL_linksOf 7 = .ok (.i2l, 1) := by decide +kernel
theorem dL_linksOf_8 : decode cL_linksOf 8 = .ok (.lastore, 1) := by decide +kernel
theorem dL_linksOf_9 : decode cL_linksOf 9 = .ok (.goto 9, 3) := by decide +kernel
theorem dL_linksOf_12 : decode cL_linksOf 12 = .ok (.astore_n 3, 1) := by decide +kernel
theorem dL_linksOf_13 : decode cL_linksOf 13 = .ok (.iconst 1, 1) := by decide +kernel
theorem dL_linksOf_14 : decode cL_linksOf 14 = .ok (.ireturn, 1) := by decide +kernel
theorem dL_linksOf_15 : decode cL_linksOf 15 = .ok (.astore_n 3, 1) := by decide +kernel
theorem dL_linksOf_16 : decode cL_linksOf 16 = .ok (.iconst 2, 1) := by decide +kernel
theorem dL_linksOf_17 : decode cL_linksOf 17 = .ok (.ireturn, 1) := by decide +kernel
theorem dL_linksOf_18 : decode cL_linksOf 18 = .ok (.iconst 0, 1) := by decide +kernel
theorem dL_linksOf_19 : decode cL_linksOf 19 = .ok (.ireturn, 1) := by decide +kernel
theorem dL_ownerOf_0 : decode cL_ownerOf 0 = .ok (.aload_n 2, 1) := by decide +kernel
theorem dL_ownerOf_1 : decode cL_ownerOf 1 = .ok (.iconst 0, 1) := by decide +kernel
theorem dL_ownerOf_2 : decode cL_ownerOf 2 = .ok (.aload_n 0, 1) := by decide +kernel
theorem dL_ownerOf_3 : decode cL_ownerOf 3 = .ok (.iload_n 1, 1) := by decide +kernel
theorem dL_ownerOf_4 : decode cL_ownerOf 4 = .ok (.invokevirtual 140, 3) := by decide +kernel
theorem dL_ownerOf_7 : decode cL_ownerOf 7 = .ok (.i2l, 1) := by decide +kernel
theorem dL_ownerOf_8 : decode cL_ownerOf 8 = .ok (.lastore, 1) := by decide +kernel
theorem dL_ownerOf_9 : decode cL_ownerOf 9 = .ok (.goto 9, 3) := by decide +kernel
theorem dL_ownerOf_12 : decode cL_ownerOf 12 = .ok (.astore_n 3, 1) := by decide +kernel
theorem dL_ownerOf_13 : decode cL_ownerOf 13 = .ok (.iconst 1, 1) := by decide +kernel
theorem dL_ownerOf_14 : decode cL_ownerOf 14 = .ok (.ireturn, 1) := by decide +kernel
theorem dL_ownerOf_15 : decode cL_ownerOf 15 = .ok (.astore_n 3, 1) := by decide +kernel
theorem dL_ownerOf_16 : decode cL_ownerOf 16 = .ok (.iconst 2, 1) := by decide +kernel
theorem dL_ownerOf_17 : decode cL_ownerOf 17 = .ok (.ireturn, 1) := by decide +kernel
theorem dL_ownerOf_18 : decode cL_ownerOf 18 = .ok (.iconst 0, 1) := by decide +kernel
theorem dL_ownerOf_19 : decode cL_ownerOf 19 = .ok (.ireturn, 1) := by decide +kernel
theorem dL_sizeOf_0 : decode cL_sizeOf 0 = .ok (.aload_n 2, 1) := by decide +kernel
theorem dL_sizeOf_1 : decode cL_sizeOf 1 = .ok (.iconst 0, 1) := by decide +kernel
theorem dL_sizeOf_2 : decode cL_sizeOf 2 = .ok (.aload_n 0, 1) := by decide +kernel
theorem dL_sizeOf_3 : decode cL_sizeOf 3 = .ok (.iload_n 1, 1) := by decide +kernel
theorem dL_sizeOf_4 : decode cL_sizeOf 4 = .ok (.invokevirtual 143, 3) := by decide +kernel
theorem dL_sizeOf_7 : decode cL_sizeOf 7 = .ok (.i2l, 1) := by decide +kernel
theorem dL_sizeOf_8 : decode cL_sizeOf 8 = .ok (.lastore, 1) := by decide +kernel
theorem dL_sizeOf_9 : decode cL_sizeOf 9 = .ok (.goto 9, 3) := by decide +kernel
theorem dL_sizeOf_12 : decode cL_sizeOf 12 = .ok (.astore_n 3, 1) := by decide +kernel
theorem dL_sizeOf_13 : decode cL_sizeOf 13 = .ok (.iconst 1, 1) := by decide +kernel
theorem dL_sizeOf_14 : decode cL_sizeOf 14 = .ok (.ireturn, 1) := by decide +kernel
theorem dL_sizeOf_15 : decode cL_sizeOf 15 = .ok (.astore_n 3, 1) := by decide +kernel
theorem dL_sizeOf_16 : decode cL_sizeOf 16 = .ok (.iconst 2, 1) := by decide +kernel
theorem dL_sizeOf_17 : decode cL_sizeOf 17 = .ok (.ireturn, 1) := by decide +kernel
theorem dL_sizeOf_18 : decode cL_sizeOf 18 = .ok (.iconst 0, 1) := by decide +kernel
theorem dL_sizeOf_19 : decode cL_sizeOf 19 = .ok (.ireturn, 1) := by decide +kernel
theorem dL_blocksOf_0 : decode cL_blocksOf 0 = .ok (.aload_n 2, 1) := by decide +kernel
theorem dL_blocksOf_1 : decode cL_blocksOf 1 = .ok (.iconst 0, 1) := by decide +kernel
theorem dL_blocksOf_2 : decode cL_blocksOf 2 = .ok (.aload_n 0, 1) := by decide +kernel
theorem dL_blocksOf_3 : decode cL_blocksOf 3 = .ok (.iload_n 1, 1) := by decide +kernel
theorem dL_blocksOf_4 : decode cL_blocksOf 4 = .ok (.invokevirtual 146, 3) := by decide +kernel
theorem dL_blocksOf_7 : decode cL_blocksOf 7 = .ok (.i2l, 1) := by decide +kernel
theorem dL_blocksOf_8 : decode cL_blocksOf 8 = .ok (.lastore, 1) := by decide +kernel
theorem dL_blocksOf_9 : decode cL_blocksOf 9 = .ok (.goto 9, 3) := by decide +kernel
theorem dL_blocksOf_12 : decode cL_blocksOf 12 = .ok (.astore_n 3, 1) := by decide +kernel
theorem dL_blocksOf_13 : decode cL_blocksOf 13 = .ok (.iconst 1, 1) := by decide +kernel
theorem dL_blocksOf_14 : decode cL_blocksOf 14 = .ok (.ireturn, 1) := by decide +kernel
theorem dL_blocksOf_15 : decode cL_blocksOf 15 = .ok (.astore_n 3, 1) := by decide +kernel
theorem dL_blocksOf_16 : decode cL_blocksOf 16 = .ok (.iconst 2, 1) := by decide +kernel
theorem dL_blocksOf_17 : decode cL_blocksOf 17 = .ok (.ireturn, 1) := by decide +kernel
theorem dL_blocksOf_18 : decode cL_blocksOf 18 = .ok (.iconst 0, 1) := by decide +kernel
theorem dL_blocksOf_19 : decode cL_blocksOf 19 = .ok (.ireturn, 1) := by decide +kernel
theorem dL_sharedOf_0 : decode cL_sharedOf 0 = .ok (.aload_n 2, 1) := by decide +kernel
theorem dL_sharedOf_1 : decode cL_sharedOf 1 = .ok (.iconst 0, 1) := by decide +kernel
theorem dL_sharedOf_2 : decode cL_sharedOf 2 = .ok (.aload_n 0, 1) := by decide +kernel
theorem dL_sharedOf_3 : decode cL_sharedOf 3 = .ok (.iload_n 1, 1) := by decide +kernel
theorem dL_sharedOf_4 : decode cL_sharedOf 4 = .ok (.invokevirtual 149, 3) := by decide +kernel
theorem dL_sharedOf_7 : decode cL_sharedOf 7 = .ok (.i2l, 1) := by decide +kernel
theorem dL_sharedOf_8 : decode cL_sharedOf 8 = .ok (.lastore, 1) := by decide +kernel
theorem dL_sharedOf_9 : decode cL_sharedOf 9 = .ok (.goto 9, 3) := by decide +kernel
theorem dL_sharedOf_12 : decode cL_sharedOf 12 = .ok (.astore_n 3, 1) := by decide +kernel
theorem dL_sharedOf_13 : decode cL_sharedOf 13 = .ok (.iconst 1, 1) := by decide +kernel
theorem dL_sharedOf_14 : decode cL_sharedOf 14 = .ok (.ireturn, 1) := by decide +kernel
theorem dL_sharedOf_15 : decode cL_sharedOf 15 = .ok (.astore_n 3, 1) := by decide +kernel
theorem dL_sharedOf_16 : decode cL_sharedOf 16 = .ok (.iconst 2, 1) := by decide +kernel
theorem dL_sharedOf_17 : decode cL_sharedOf 17 = .ok (.ireturn, 1) := by decide +kernel
theorem dL_sharedOf_18 : decode cL_sharedOf 18 = .ok (.iconst 0, 1) := by decide +kernel
theorem dL_sharedOf_19 : decode cL_sharedOf 19 = .ok (.ireturn, 1) := by decide +kernel
theorem dL_byteAt_0 : decode cL_byteAt 0 = .ok (.aload_n 3, 1) := by decide +kernel
theorem dL_byteAt_1 : decode cL_byteAt 1 = .ok (.iconst 0, 1) := by decide +kernel
theorem dL_byteAt_2 : decode cL_byteAt 2 = .ok (.aload_n 0, 1) := by decide +kernel
theorem dL_byteAt_3 : decode cL_byteAt 3 = .ok (.iload_n 1, 1) := by decide +kernel
theorem dL_byteAt_4 : decode cL_byteAt 4 = .ok (.iload_n 2, 1) := by decide +kernel
theorem dL_byteAt_5 : decode cL_byteAt 5 = .ok (.invokevirtual 152, 3) := by decide +kernel
theorem dL_byteAt_8 : decode cL_byteAt 8 = .ok (.i2l, 1) := by decide +kernel
theorem dL_byteAt_9 : decode cL_byteAt 9 = .ok (.lastore, 1) := by decide +kernel
theorem dL_byteAt_10 : decode cL_byteAt 10 = .ok (.goto 15, 3) := by decide +kernel
theorem dL_byteAt_13 : decode cL_byteAt 13 = .ok (.astore 4, 2) := by decide +kernel
theorem dL_byteAt_15 : decode cL_byteAt 15 = .ok (.iconst 1, 1) := by decide +kernel
theorem dL_byteAt_16 : decode cL_byteAt 16 = .ok (.ireturn, 1) := by decide +kernel
theorem dL_byteAt_17 : decode cL_byteAt 17 = .ok (.astore 4, 2) := by decide +kernel
theorem dL_byteAt_19 : decode cL_byteAt 19 = .ok (.iconst 2, 1) := by decide +kernel
theorem dL_byteAt_20 : decode cL_byteAt 20 = .ok (.ireturn, 1) := by decide +kernel
theorem dL_byteAt_21 : decode cL_byteAt 21 = .ok (.astore 4, 2) := by decide +kernel
theorem dL_byteAt_23 : decode cL_byteAt 23 = .ok (.iconst 3, 1) := by decide +kernel
theorem dL_byteAt_24 : decode cL_byteAt 24 = .ok (.ireturn, 1) := by decide +kernel
theorem dL_byteAt_25 : decode cL_byteAt 25 = .ok (.iconst 0, 1) := by decide +kernel
theorem dL_byteAt_26 : decode cL_byteAt 26 = .ok (.ireturn, 1) := by decide +kernel
theorem dL_isHole_0 : decode cL_isHole 0 = .ok (.aload_n 3, 1) := by decide +kernel
theorem dL_isHole_1 : decode cL_isHole 1 = .ok (.iconst 0, 1) := by decide +kernel
theorem dL_isHole_2 : decode cL_isHole 2 = .ok (.aload_n 0, 1) := by decide +kernel
theorem dL_isHole_3 : decode cL_isHole 3 = .ok (.iload_n 1, 1) := by decide +kernel
theorem dL_isHole_4 : decode cL_isHole 4 = .ok (.iload_n 2, 1) := by decide +kernel
theorem dL_isHole_5 : decode cL_isHole 5 = .ok (.invokevirtual 155, 3) := by decide +kernel
theorem dL_isHole_8 : decode cL_isHole 8 = .ok (.ifCond .eq 7, 3) := by decide +kernel
theorem dL_isHole_11 : decode cL_isHole 11 = .ok (.lconst 1, 1) := by decide +kernel
theorem dL_isHole_12 : decode cL_isHole 12 = .ok (.goto 4, 3) := by decide +kernel
theorem dL_isHole_15 : decode cL_isHole 15 = .ok (.lconst 0, 1) := by decide +kernel
theorem dL_isHole_16 : decode cL_isHole 16 = .ok (.lastore, 1) := by decide +kernel
theorem dL_isHole_17 : decode cL_isHole 17 = .ok (.goto 15, 3) := by decide +kernel
theorem dL_isHole_20 : decode cL_isHole 20 = .ok (.astore 4, 2) := by decide +kernel
theorem dL_isHole_22 : decode cL_isHole 22 = .ok (.iconst 1, 1) := by decide +kernel
theorem dL_isHole_23 : decode cL_isHole 23 = .ok (.ireturn, 1) := by decide +kernel
theorem dL_isHole_24 : decode cL_isHole 24 = .ok (.astore 4, 2) := by decide +kernel
theorem dL_isHole_26 : decode cL_isHole 26 = .ok (.iconst 2, 1) := by decide +kernel
theorem dL_isHole_27 : decode cL_isHole 27 = .ok (.ireturn, 1) := by decide +kernel
theorem dL_isHole_28 : decode cL_isHole 28 = .ok (.astore 4, 2) := by decide +kernel
theorem dL_isHole_30 : decode cL_isHole 30 = .ok (.iconst 3, 1) := by decide +kernel
theorem dL_isHole_31 : decode cL_isHole 31 = .ok (.ireturn, 1) := by decide +kernel
theorem dL_isHole_32 : decode cL_isHole 32 = .ok (.iconst 0, 1) := by decide +kernel
theorem dL_isHole_33 : decode cL_isHole 33 = .ok (.ireturn, 1) := by decide +kernel
theorem dL_nextData_0 : decode cL_nextData 0 = .ok (.aload_n 3, 1) := by decide +kernel
theorem dL_nextData_1 : decode cL_nextData 1 = .ok (.iconst 0, 1) := by decide +kernel
theorem dL_nextData_2 : decode cL_nextData 2 = .ok (.aload_n 0, 1) := by decide +kernel
theorem dL_nextData_3 : decode cL_nextData 3 = .ok (.iload_n 1, 1) := by decide +kernel
theorem dL_nextData_4 : decode cL_nextData 4 = .ok (.iload_n 2, 1) := by decide +kernel
theorem dL_nextData_5 : decode cL_nextData 5 = .ok (.invokevirtual 159, 3) := by decide +kernel
theorem dL_nextData_8 : decode cL_nextData 8 = .ok (.i2l, 1) := by decide +kernel
theorem dL_nextData_9 : decode cL_nextData 9 = .ok (.lastore, 1) := by decide +kernel
theorem dL_nextData_10 : decode cL_nextData 10 = .ok (.goto 15, 3) := by decide +kernel
theorem dL_nextData_13 : decode cL_nextData 13 = .ok (.astore 4, 2) := by decide +kernel
theorem dL_nextData_15 : decode cL_nextData 15 = .ok (.iconst 1, 1) := by decide +kernel
theorem dL_nextData_16 : decode cL_nextData 16 = .ok (.ireturn, 1) := by decide +kernel
theorem dL_nextData_17 : decode cL_nextData 17 = .ok (.astore 4, 2) := by decide +kernel
theorem dL_nextData_19 : decode cL_nextData 19 = .ok (.iconst 2, 1) := by decide +kernel
theorem dL_nextData_20 : decode cL_nextData 20 = .ok (.ireturn, 1) := by decide +kernel
theorem dL_nextData_21 : decode cL_nextData 21 = .ok (.astore 4, 2) := by decide +kernel
theorem dL_nextData_23 : decode cL_nextData 23 = .ok (.iconst 3, 1) := by decide +kernel
theorem dL_nextData_24 : decode cL_nextData 24 = .ok (.ireturn, 1) := by decide +kernel
theorem dL_nextData_25 : decode cL_nextData 25 = .ok (.iconst 0, 1) := by decide +kernel
theorem dL_nextData_26 : decode cL_nextData 26 = .ok (.ireturn, 1) := by decide +kernel
theorem dL_nextHole_0 : decode cL_nextHole 0 = .ok (.aload_n 3, 1) := by decide +kernel
theorem dL_nextHole_1 : decode cL_nextHole 1 = .ok (.iconst 0, 1) := by decide +kernel
theorem dL_nextHole_2 : decode cL_nextHole 2 = .ok (.aload_n 0, 1) := by decide +kernel
theorem dL_nextHole_3 : decode cL_nextHole 3 = .ok (.iload_n 1, 1) := by decide +kernel
theorem dL_nextHole_4 : decode cL_nextHole 4 = .ok (.iload_n 2, 1) := by decide +kernel
theorem dL_nextHole_5 : decode cL_nextHole 5 = .ok (.invokevirtual 162, 3) := by decide +kernel
theorem dL_nextHole_8 : decode cL_nextHole 8 = .ok (.i2l, 1) := by decide +kernel
theorem dL_nextHole_9 : decode cL_nextHole 9 = .ok (.lastore, 1) := by decide +kernel
theorem dL_nextHole_10 : decode cL_nextHole 10 = .ok (.goto 15, 3) := by decide +kernel
theorem dL_nextHole_13 : decode cL_nextHole 13 = .ok (.astore 4, 2) := by decide +kernel
theorem dL_nextHole_15 : decode cL_nextHole 15 = .ok (.iconst 1, 1) := by decide +kernel
theorem dL_nextHole_16 : decode cL_nextHole 16 = .ok (.ireturn, 1) := by decide +kernel
theorem dL_nextHole_17 : decode cL_nextHole 17 = .ok (.astore 4, 2) := by decide +kernel
theorem dL_nextHole_19 : decode cL_nextHole 19 = .ok (.iconst 2, 1) := by decide +kernel
theorem dL_nextHole_20 : decode cL_nextHole 20 = .ok (.ireturn, 1) := by decide +kernel
theorem dL_nextHole_21 : decode cL_nextHole 21 = .ok (.astore 4, 2) := by decide +kernel
theorem dL_nextHole_23 : decode cL_nextHole 23 = .ok (.iconst 3, 1) := by decide +kernel
theorem dL_nextHole_24 : decode cL_nextHole 24 = .ok (.ireturn, 1) := by decide +kernel
theorem dL_nextHole_25 : decode cL_nextHole 25 = .ok (.iconst 0, 1) := by decide +kernel
theorem dL_nextHole_26 : decode cL_nextHole 26 = .ok (.ireturn, 1) := by decide +kernel
theorem dL_sameBytes_0 : decode cL_sameBytes 0 = .ok (.aload_n 3, 1) := by decide +kernel
theorem dL_sameBytes_1 : decode cL_sameBytes 1 = .ok (.iconst 0, 1) := by decide +kernel
theorem dL_sameBytes_2 : decode cL_sameBytes 2 = .ok (.aload_n 0, 1) := by decide +kernel
theorem dL_sameBytes_3 : decode cL_sameBytes 3 = .ok (.iload_n 1, 1) := by decide +kernel
theorem dL_sameBytes_4 : decode cL_sameBytes 4 = .ok (.iload_n 2, 1) := by decide +kernel
theorem dL_sameBytes_5 : decode cL_sameBytes 5 = .ok (.invokevirtual 165, 3) := by decide +kernel
theorem dL_sameBytes_8 : decode cL_sameBytes 8 = .ok (.ifCond .eq 7, 3) := by decide +kernel
theorem dL_sameBytes_11 : decode cL_sameBytes 11 = .ok (.lconst 1, 1) := by decide +kernel
theorem dL_sameBytes_12 : decode cL_sameBytes 12 = .ok (.goto 4, 3) := by decide +kernel
theorem dL_sameBytes_15 : decode cL_sameBytes 15 = .ok (.lconst 0, 1) := by decide +kernel
theorem dL_sameBytes_16 : decode cL_sameBytes 16 = .ok (.lastore, 1) := by decide +kernel
theorem dL_sameBytes_17 : decode cL_sameBytes 17 = .ok (.goto 11, 3) := by decide +kernel
theorem dL_sameBytes_20 : decode cL_sameBytes 20 = .ok (.astore 4, 2) := by decide +kernel
theorem dL_sameBytes_22 : decode cL_sameBytes 22 = .ok (.iconst 1, 1) := by decide +kernel
theorem dL_sameBytes_23 : decode cL_sameBytes 23 = .ok (.ireturn, 1) := by decide +kernel
theorem dL_sameBytes_24 : decode cL_sameBytes 24 = .ok (.astore 4, 2) := by decide +kernel
theorem dL_sameBytes_26 : decode cL_sameBytes 26 = .ok (.iconst 2, 1) := by decide +kernel
theorem dL_sameBytes_27 : decode cL_sameBytes 27 = .ok (.ireturn, 1) := by decide +kernel
theorem dL_sameBytes_28 : decode cL_sameBytes 28 = .ok (.iconst 0, 1) := by decide +kernel
theorem dL_sameBytes_29 : decode cL_sameBytes 29 = .ok (.ireturn, 1) := by decide +kernel
theorem dL_lookup_0 : decode cL_lookup 0 = .ok (.aload_n 3, 1) := by decide +kernel
theorem dL_lookup_1 : decode cL_lookup 1 = .ok (.iconst 0, 1) := by decide +kernel
theorem dL_lookup_2 : decode cL_lookup 2 = .ok (.aload_n 0, 1) := by decide +kernel
theorem dL_lookup_3 : decode cL_lookup 3 = .ok (.iload_n 1, 1) := by decide +kernel
theorem dL_lookup_4 : decode cL_lookup 4 = .ok (.iload_n 2, 1) := by decide +kernel
theorem dL_lookup_5 : decode cL_lookup 5 = .ok (.invokevirtual 168, 3) := by decide +kernel
theorem dL_lookup_8 : decode cL_lookup 8 = .ok (.i2l, 1) := by decide +kernel
theorem dL_lookup_9 : decode cL_lookup 9 = .ok (.lastore, 1) := by decide +kernel
theorem dL_lookup_10 : decode cL_lookup 10 = .ok (.goto 15, 3) := by decide +kernel
theorem dL_lookup_13 : decode cL_lookup 13 = .ok (.astore 4, 2) := by decide +kernel
theorem dL_lookup_15 : decode cL_lookup 15 = .ok (.iconst 1, 1) := by decide +kernel
theorem dL_lookup_16 : decode cL_lookup 16 = .ok (.ireturn, 1) := by decide +kernel
theorem dL_lookup_17 : decode cL_lookup 17 = .ok (.astore 4, 2) := by decide +kernel
theorem dL_lookup_19 : decode cL_lookup 19 = .ok (.iconst 2, 1) := by decide +kernel
theorem dL_lookup_20 : decode cL_lookup 20 = .ok (.ireturn, 1) := by decide +kernel
theorem dL_lookup_21 : decode cL_lookup 21 = .ok (.astore 4, 2) := by decide +kernel
theorem dL_lookup_23 : decode cL_lookup 23 = .ok (.iconst 3, 1) := by decide +kernel
theorem dL_lookup_24 : decode cL_lookup 24 = .ok (.ireturn, 1) := by decide +kernel
theorem dL_lookup_25 : decode cL_lookup 25 = .ok (.iconst 0, 1) := by decide +kernel
theorem dL_lookup_26 : decode cL_lookup 26 = .ok (.ireturn, 1) := by decide +kernel
theorem dL_follow_0 : decode cL_follow 0 = .ok (.aload_n 3, 1) := by decide +kernel
theorem dL_follow_1 : decode cL_follow 1 = .ok (.iconst 0, 1) := by decide +kernel
theorem dL_follow_2 : decode cL_follow 2 = .ok (.aload_n 0, 1) := by decide +kernel
theorem dL_follow_3 : decode cL_follow 3 = .ok (.iload_n 1, 1) := by decide +kernel
theorem dL_follow_4 : decode cL_follow 4 = .ok (.iload_n 2, 1) := by decide +kernel
theorem dL_follow_5 : decode cL_follow 5 = .ok (.invokevirtual 171, 3) := by decide +kernel
theorem dL_follow_8 : decode cL_follow 8 = .ok (.i2l, 1) := by decide +kernel
theorem dL_follow_9 : decode cL_follow 9 = .ok (.lastore, 1) := by decide +kernel
theorem dL_follow_10 : decode cL_follow 10 = .ok (.goto 15, 3) := by decide +kernel
theorem dL_follow_13 : decode cL_follow 13 = .ok (.astore 4, 2) := by decide +kernel
theorem dL_follow_15 : decode cL_follow 15 = .ok (.iconst 1, 1) := by decide +kernel
theorem dL_follow_16 : decode cL_follow 16 = .ok (.ireturn, 1) := by decide +kernel
theorem dL_follow_17 : decode cL_follow 17 = .ok (.astore 4, 2) := by decide +kernel
theorem dL_follow_19 : decode cL_follow 19 = .ok (.iconst 2, 1) := by decide +kernel
theorem dL_follow_20 : decode cL_follow 20 = .ok (.ireturn, 1) := by decide +kernel
theorem dL_follow_21 : decode cL_follow 21 = .ok (.astore 4, 2) := by decide +kernel
theorem dL_follow_23 : decode cL_follow 23 = .ok (.iconst 3, 1) := by decide +kernel
theorem dL_follow_24 : decode cL_follow 24 = .ok (.ireturn, 1) := by decide +kernel
theorem dL_follow_25 : decode cL_follow 25 = .ok (.iconst 0, 1) := by decide +kernel
theorem dL_follow_26 : decode cL_follow 26 = .ok (.ireturn, 1) := by decide +kernel
theorem dL_nameAt_0 : decode cL_nameAt 0 = .ok (.aload_n 3, 1) := by decide +kernel
theorem dL_nameAt_1 : decode cL_nameAt 1 = .ok (.iconst 0, 1) := by decide +kernel
theorem dL_nameAt_2 : decode cL_nameAt 2 = .ok (.aload_n 0, 1) := by decide +kernel
theorem dL_nameAt_3 : decode cL_nameAt 3 = .ok (.iload_n 1, 1) := by decide +kernel
theorem dL_nameAt_4 : decode cL_nameAt 4 = .ok (.iload_n 2, 1) := by decide +kernel
theorem dL_nameAt_5 : decode cL_nameAt 5 = .ok (.invokevirtual 174, 3) := by decide +kernel
theorem dL_nameAt_8 : decode cL_nameAt 8 = .ok (.i2l, 1) := by decide +kernel
theorem dL_nameAt_9 : decode cL_nameAt 9 = .ok (.lastore, 1) := by decide +kernel
theorem dL_nameAt_10 : decode cL_nameAt 10 = .ok (.goto 11, 3) := by decide +kernel
theorem dL_nameAt_13 : decode cL_nameAt 13 = .ok (.astore 4, 2) := by decide +kernel
theorem dL_nameAt_15 : decode cL_nameAt 15 = .ok (.iconst 1, 1) := by decide +kernel
theorem dL_nameAt_16 : decode cL_nameAt 16 = .ok (.ireturn, 1) := by decide +kernel
theorem dL_nameAt_17 : decode cL_nameAt 17 = .ok (.astore 4, 2) := by decide +kernel
theorem dL_nameAt_19 : decode cL_nameAt 19 = .ok (.iconst 2, 1) := by decide +kernel
theorem dL_nameAt_20 : decode cL_nameAt 20 = .ok (.ireturn, 1) := by decide +kernel
theorem dL_nameAt_21 : decode cL_nameAt 21 = .ok (.iconst 0, 1) := by decide +kernel
theorem dL_nameAt_22 : decode cL_nameAt 22 = .ok (.ireturn, 1) := by decide +kernel
theorem dL_parentOf_0 : decode cL_parentOf 0 = .ok (.aload_n 2, 1) := by decide +kernel
theorem dL_parentOf_1 : decode cL_parentOf 1 = .ok (.iconst 0, 1) := by decide +kernel
theorem dL_parentOf_2 : decode cL_parentOf 2 = .ok (.aload_n 0, 1) := by decide +kernel
theorem dL_parentOf_3 : decode cL_parentOf 3 = .ok (.iload_n 1, 1) := by decide +kernel
theorem dL_parentOf_4 : decode cL_parentOf 4 = .ok (.invokevirtual 177, 3) := by decide +kernel
theorem dL_parentOf_7 : decode cL_parentOf 7 = .ok (.i2l, 1) := by decide +kernel
theorem dL_parentOf_8 : decode cL_parentOf 8 = .ok (.lastore, 1) := by decide +kernel
theorem dL_parentOf_9 : decode cL_parentOf 9 = .ok (.goto 9, 3) := by decide +kernel
theorem dL_parentOf_12 : decode cL_parentOf 12 = .ok (.astore_n 3, 1) := by decide +kernel
theorem dL_parentOf_13 : decode cL_parentOf 13 = .ok (.iconst 1, 1) := by decide +kernel
theorem dL_parentOf_14 : decode cL_parentOf 14 = .ok (.ireturn, 1) := by decide +kernel
theorem dL_parentOf_15 : decode cL_parentOf 15 = .ok (.astore_n 3, 1) := by decide +kernel
theorem dL_parentOf_16 : decode cL_parentOf 16 = .ok (.iconst 2, 1) := by decide +kernel
theorem dL_parentOf_17 : decode cL_parentOf 17 = .ok (.ireturn, 1) := by decide +kernel
theorem dL_parentOf_18 : decode cL_parentOf 18 = .ok (.iconst 0, 1) := by decide +kernel
theorem dL_parentOf_19 : decode cL_parentOf 19 = .ok (.ireturn, 1) := by decide +kernel
theorem dL_depthOf_0 : decode cL_depthOf 0 = .ok (.aload_n 2, 1) := by decide +kernel
theorem dL_depthOf_1 : decode cL_depthOf 1 = .ok (.iconst 0, 1) := by decide +kernel
theorem dL_depthOf_2 : decode cL_depthOf 2 = .ok (.aload_n 0, 1) := by decide +kernel
theorem dL_depthOf_3 : decode cL_depthOf 3 = .ok (.iload_n 1, 1) := by decide +kernel
theorem dL_depthOf_4 : decode cL_depthOf 4 = .ok (.invokevirtual 180, 3) := by decide +kernel
theorem dL_depthOf_7 : decode cL_depthOf 7 = .ok (.i2l, 1) := by decide +kernel
theorem dL_depthOf_8 : decode cL_depthOf 8 = .ok (.lastore, 1) := by decide +kernel
theorem dL_depthOf_9 : decode cL_depthOf 9 = .ok (.goto 9, 3) := by decide +kernel
theorem dL_depthOf_12 : decode cL_depthOf 12 = .ok (.astore_n 3, 1) := by decide +kernel
theorem dL_depthOf_13 : decode cL_depthOf 13 = .ok (.iconst 1, 1) := by decide +kernel
theorem dL_depthOf_14 : decode cL_depthOf 14 = .ok (.ireturn, 1) := by decide +kernel
theorem dL_depthOf_15 : decode cL_depthOf 15 = .ok (.astore_n 3, 1) := by decide +kernel
theorem dL_depthOf_16 : decode cL_depthOf 16 = .ok (.iconst 2, 1) := by decide +kernel
theorem dL_depthOf_17 : decode cL_depthOf 17 = .ok (.ireturn, 1) := by decide +kernel
theorem dL_depthOf_18 : decode cL_depthOf 18 = .ok (.iconst 0, 1) := by decide +kernel
theorem dL_depthOf_19 : decode cL_depthOf 19 = .ok (.ireturn, 1) := by decide +kernel
theorem dL_isOrphan_0 : decode cL_isOrphan 0 = .ok (.aload_n 2, 1) := by decide +kernel
theorem dL_isOrphan_1 : decode cL_isOrphan 1 = .ok (.iconst 0, 1) := by decide +kernel
theorem dL_isOrphan_2 : decode cL_isOrphan 2 = .ok (.aload_n 0, 1) := by decide +kernel
theorem dL_isOrphan_3 : decode cL_isOrphan 3 = .ok (.iload_n 1, 1) := by decide +kernel
theorem dL_isOrphan_4 : decode cL_isOrphan 4 = .ok (.invokevirtual 183, 3) := by decide +kernel
theorem dL_isOrphan_7 : decode cL_isOrphan 7 = .ok (.ifCond .eq 7, 3) := by decide +kernel
theorem dL_isOrphan_10 : decode cL_isOrphan 10 = .ok (.lconst 1, 1) := by decide +kernel
theorem dL_isOrphan_11 : decode cL_isOrphan 11 = .ok (.goto 4, 3) := by decide +kernel
theorem dL_isOrphan_14 : decode cL_isOrphan 14 = .ok (.lconst 0, 1) := by decide +kernel
theorem dL_isOrphan_15 : decode cL_isOrphan 15 = .ok (.lastore, 1) := by decide +kernel
theorem dL_isOrphan_16 : decode cL_isOrphan 16 = .ok (.goto 9, 3) := by decide +kernel
theorem dL_isOrphan_19 : decode cL_isOrphan 19 = .ok (.astore_n 3, 1) := by decide +kernel
theorem dL_isOrphan_20 : decode cL_isOrphan 20 = .ok (.iconst 1, 1) := by decide +kernel
theorem dL_isOrphan_21 : decode cL_isOrphan 21 = .ok (.ireturn, 1) := by decide +kernel
theorem dL_isOrphan_22 : decode cL_isOrphan 22 = .ok (.astore_n 3, 1) := by decide +kernel
theorem dL_isOrphan_23 : decode cL_isOrphan 23 = .ok (.iconst 2, 1) := by decide +kernel
theorem dL_isOrphan_24 : decode cL_isOrphan 24 = .ok (.ireturn, 1) := by decide +kernel
theorem dL_isOrphan_25 : decode cL_isOrphan 25 = .ok (.iconst 0, 1) := by decide +kernel
theorem dL_isOrphan_26 : decode cL_isOrphan 26 = .ok (.ireturn, 1) := by decide +kernel
theorem dL_blocksUnder_0 : decode cL_blocksUnder 0 = .ok (.aload_n 2, 1) := by decide +kernel
theorem dL_blocksUnder_1 : decode cL_blocksUnder 1 = .ok (.iconst 0, 1) := by decide +kernel
theorem dL_blocksUnder_2 : decode cL_blocksUnder 2 = .ok (.aload_n 0, 1) := by decide +kernel
theorem dL_blocksUnder_3 : decode cL_blocksUnder 3 = .ok (.iload_n 1, 1) := by decide +kernel
theorem dL_blocksUnder_4 : decode cL_blocksUnder 4 = .ok (.invokevirtual 187, 3) := by decide +kernel
theorem dL_blocksUnder_7 : decode cL_blocksUnder 7 = .ok (.i2l, 1) := by decide +kernel
theorem dL_blocksUnder_8 : decode cL_blocksUnder 8 = .ok (.lastore, 1) := by decide +kernel
theorem dL_blocksUnder_9 : decode cL_blocksUnder 9 = .ok (.goto 9, 3) := by decide +kernel
theorem dL_blocksUnder_12 : decode cL_blocksUnder 12 = .ok (.astore_n 3, 1) := by decide +kernel
theorem dL_blocksUnder_13 : decode cL_blocksUnder 13 = .ok (.iconst 1, 1) := by decide +kernel
theorem dL_blocksUnder_14 : decode cL_blocksUnder 14 = .ok (.ireturn, 1) := by decide +kernel
theorem dL_blocksUnder_15 : decode cL_blocksUnder 15 = .ok (.astore_n 3, 1) := by decide +kernel
theorem dL_blocksUnder_16 : decode cL_blocksUnder 16 = .ok (.iconst 2, 1) := by decide +kernel
theorem dL_blocksUnder_17 : decode cL_blocksUnder 17 = .ok (.ireturn, 1) := by decide +kernel
theorem dL_blocksUnder_18 : decode cL_blocksUnder 18 = .ok (.iconst 0, 1) := by decide +kernel
theorem dL_blocksUnder_19 : decode cL_blocksUnder 19 = .ok (.ireturn, 1) := by decide +kernel
theorem dL_wouldFree_0 : decode cL_wouldFree 0 = .ok (.aload_n 2, 1) := by decide +kernel
theorem dL_wouldFree_1 : decode cL_wouldFree 1 = .ok (.iconst 0, 1) := by decide +kernel
theorem dL_wouldFree_2 : decode cL_wouldFree 2 = .ok (.aload_n 0, 1) := by decide +kernel
theorem dL_wouldFree_3 : decode cL_wouldFree 3 = .ok (.iload_n 1, 1) := by decide +kernel
theorem dL_wouldFree_4 : decode cL_wouldFree 4 = .ok (.invokevirtual 190, 3) := by decide +kernel
theorem dL_wouldFree_7 : decode cL_wouldFree 7 = .ok (.i2l, 1) := by decide +kernel
theorem dL_wouldFree_8 : decode cL_wouldFree 8 = .ok (.lastore, 1) := by decide +kernel
theorem dL_wouldFree_9 : decode cL_wouldFree 9 = .ok (.goto 9, 3) := by decide +kernel
theorem dL_wouldFree_12 : decode cL_wouldFree 12 = .ok (.astore_n 3, 1) := by decide +kernel
theorem dL_wouldFree_13 : decode cL_wouldFree 13 = .ok (.iconst 1, 1) := by decide +kernel
theorem dL_wouldFree_14 : decode cL_wouldFree 14 = .ok (.ireturn, 1) := by decide +kernel
theorem dL_wouldFree_15 : decode cL_wouldFree 15 = .ok (.astore_n 3, 1) := by decide +kernel
theorem dL_wouldFree_16 : decode cL_wouldFree 16 = .ok (.iconst 2, 1) := by decide +kernel
theorem dL_wouldFree_17 : decode cL_wouldFree 17 = .ok (.ireturn, 1) := by decide +kernel
theorem dL_wouldFree_18 : decode cL_wouldFree 18 = .ok (.iconst 0, 1) := by decide +kernel
theorem dL_wouldFree_19 : decode cL_wouldFree 19 = .ok (.ireturn, 1) := by decide +kernel
theorem dL_used_0 : decode cL_used 0 = .ok (.aload_n 1, 1) := by decide +kernel
theorem dL_used_1 : decode cL_used 1 = .ok (.iconst 0, 1) := by decide +kernel
theorem dL_used_2 : decode cL_used 2 = .ok (.aload_n 0, 1) := by decide +kernel
theorem dL_used_3 : decode cL_used 3 = .ok (.invokevirtual 193, 3) := by decide +kernel
theorem dL_used_6 : decode cL_used 6 = .ok (.i2l, 1) := by decide +kernel
theorem dL_used_7 : decode cL_used 7 = .ok (.lastore, 1) := by decide +kernel
theorem dL_used_8 : decode cL_used 8 = .ok (.goto 6, 3) := by decide +kernel
theorem dL_used_11 : decode cL_used 11 = .ok (.astore_n 2, 1) := by decide +kernel
theorem dL_used_12 : decode cL_used 12 = .ok (.iconst 1, 1) := by decide +kernel
theorem dL_used_13 : decode cL_used 13 = .ok (.ireturn, 1) := by decide +kernel
theorem dL_used_14 : decode cL_used 14 = .ok (.iconst 0, 1) := by decide +kernel
theorem dL_used_15 : decode cL_used 15 = .ok (.ireturn, 1) := by decide +kernel
theorem dL_usedBy_0 : decode cL_usedBy 0 = .ok (.aload_n 2, 1) := by decide +kernel
theorem dL_usedBy_1 : decode cL_usedBy 1 = .ok (.iconst 0, 1) := by decide +kernel
theorem dL_usedBy_2 : decode cL_usedBy 2 = .ok (.aload_n 0, 1) := by decide +kernel
theorem dL_usedBy_3 : decode cL_usedBy 3 = .ok (.iload_n 1, 1) := by decide +kernel
theorem dL_usedBy_4 : decode cL_usedBy 4 = .ok (.invokevirtual 196, 3) := by decide +kernel
theorem dL_usedBy_7 : decode cL_usedBy 7 = .ok (.i2l, 1) := by decide +kernel
theorem dL_usedBy_8 : decode cL_usedBy 8 = .ok (.lastore, 1) := by decide +kernel
theorem dL_usedBy_9 : decode cL_usedBy 9 = .ok (.goto 9, 3) := by decide +kernel
theorem dL_usedBy_12 : decode cL_usedBy 12 = .ok (.astore_n 3, 1) := by decide +kernel
theorem dL_usedBy_13 : decode cL_usedBy 13 = .ok (.iconst 1, 1) := by decide +kernel
theorem dL_usedBy_14 : decode cL_usedBy 14 = .ok (.ireturn, 1) := by decide +kernel
theorem dL_usedBy_15 : decode cL_usedBy 15 = .ok (.astore_n 3, 1) := by decide +kernel
theorem dL_usedBy_16 : decode cL_usedBy 16 = .ok (.iconst 2, 1) := by decide +kernel
theorem dL_usedBy_17 : decode cL_usedBy 17 = .ok (.ireturn, 1) := by decide +kernel
theorem dL_usedBy_18 : decode cL_usedBy 18 = .ok (.iconst 0, 1) := by decide +kernel
theorem dL_usedBy_19 : decode cL_usedBy 19 = .ok (.ireturn, 1) := by decide +kernel
theorem dL_quotaOf_0 : decode cL_quotaOf 0 = .ok (.aload_n 2, 1) := by decide +kernel
theorem dL_quotaOf_1 : decode cL_quotaOf 1 = .ok (.iconst 0, 1) := by decide +kernel
theorem dL_quotaOf_2 : decode cL_quotaOf 2 = .ok (.aload_n 0, 1) := by decide +kernel
theorem dL_quotaOf_3 : decode cL_quotaOf 3 = .ok (.iload_n 1, 1) := by decide +kernel
theorem dL_quotaOf_4 : decode cL_quotaOf 4 = .ok (.invokevirtual 199, 3) := by decide +kernel
theorem dL_quotaOf_7 : decode cL_quotaOf 7 = .ok (.i2l, 1) := by decide +kernel
theorem dL_quotaOf_8 : decode cL_quotaOf 8 = .ok (.lastore, 1) := by decide +kernel
theorem dL_quotaOf_9 : decode cL_quotaOf 9 = .ok (.goto 9, 3) := by decide +kernel
theorem dL_quotaOf_12 : decode cL_quotaOf 12 = .ok (.astore_n 3, 1) := by decide +kernel
theorem dL_quotaOf_13 : decode cL_quotaOf 13 = .ok (.iconst 1, 1) := by decide +kernel
theorem dL_quotaOf_14 : decode cL_quotaOf 14 = .ok (.ireturn, 1) := by decide +kernel
theorem dL_quotaOf_15 : decode cL_quotaOf 15 = .ok (.astore_n 3, 1) := by decide +kernel
theorem dL_quotaOf_16 : decode cL_quotaOf 16 = .ok (.iconst 2, 1) := by decide +kernel
theorem dL_quotaOf_17 : decode cL_quotaOf 17 = .ok (.ireturn, 1) := by decide +kernel
theorem dL_quotaOf_18 : decode cL_quotaOf 18 = .ok (.iconst 0, 1) := by decide +kernel
theorem dL_quotaOf_19 : decode cL_quotaOf 19 = .ok (.ireturn, 1) := by decide +kernel
theorem dL_greatestFile_0 : decode cL_greatestFile 0 = .ok (.aload_n 1, 1) := by decide +kernel
theorem dL_greatestFile_1 : decode cL_greatestFile 1 = .ok (.iconst 0, 1) := by decide +kernel
theorem dL_greatestFile_2 : decode cL_greatestFile 2 = .ok (.aload_n 0, 1) := by decide +kernel
theorem dL_greatestFile_3 : decode cL_greatestFile 3 = .ok (.invokevirtual 202, 3) := by decide +kernel
theorem dL_greatestFile_6 : decode cL_greatestFile 6 = .ok (.i2l, 1) := by decide +kernel
theorem dL_greatestFile_7 : decode cL_greatestFile 7 = .ok (.lastore, 1) := by decide +kernel
theorem dL_greatestFile_8 : decode cL_greatestFile 8 = .ok (.goto 6, 3) := by decide +kernel
theorem dL_greatestFile_11 : decode cL_greatestFile 11 = .ok (.astore_n 2, 1) := by decide +kernel
theorem dL_greatestFile_12 : decode cL_greatestFile 12 = .ok (.iconst 1, 1) := by decide +kernel
theorem dL_greatestFile_13 : decode cL_greatestFile 13 = .ok (.ireturn, 1) := by decide +kernel
theorem dL_greatestFile_14 : decode cL_greatestFile 14 = .ok (.iconst 0, 1) := by decide +kernel
theorem dL_greatestFile_15 : decode cL_greatestFile 15 = .ok (.ireturn, 1) := by decide +kernel
theorem dL_meanSize_0 : decode cL_meanSize 0 = .ok (.aload_n 1, 1) := by decide +kernel
theorem dL_meanSize_1 : decode cL_meanSize 1 = .ok (.iconst 0, 1) := by decide +kernel
theorem dL_meanSize_2 : decode cL_meanSize 2 = .ok (.aload_n 0, 1) := by decide +kernel
theorem dL_meanSize_3 : decode cL_meanSize 3 = .ok (.invokevirtual 205, 3) := by decide +kernel
theorem dL_meanSize_6 : decode cL_meanSize 6 = .ok (.dastore, 1) := by decide +kernel
theorem dL_meanSize_7 : decode cL_meanSize 7 = .ok (.goto 6, 3) := by decide +kernel
theorem dL_meanSize_10 : decode cL_meanSize 10 = .ok (.astore_n 2, 1) := by decide +kernel
theorem dL_meanSize_11 : decode cL_meanSize 11 = .ok (.iconst 1, 1) := by decide +kernel
theorem dL_meanSize_12 : decode cL_meanSize 12 = .ok (.ireturn, 1) := by decide +kernel
theorem dL_meanSize_13 : decode cL_meanSize 13 = .ok (.iconst 0, 1) := by decide +kernel
theorem dL_meanSize_14 : decode cL_meanSize 14 = .ok (.ireturn, 1) := by decide +kernel
theorem dL_flaws_0 : decode cL_flaws 0 = .ok (.aload_n 1, 1) := by decide +kernel
theorem dL_flaws_1 : decode cL_flaws 1 = .ok (.iconst 0, 1) := by decide +kernel
theorem dL_flaws_2 : decode cL_flaws 2 = .ok (.aload_n 0, 1) := by decide +kernel
theorem dL_flaws_3 : decode cL_flaws 3 = .ok (.invokevirtual 209, 3) := by decide +kernel
theorem dL_flaws_6 : decode cL_flaws 6 = .ok (.i2l, 1) := by decide +kernel
theorem dL_flaws_7 : decode cL_flaws 7 = .ok (.lastore, 1) := by decide +kernel
theorem dL_flaws_8 : decode cL_flaws 8 = .ok (.goto 6, 3) := by decide +kernel
theorem dL_flaws_11 : decode cL_flaws 11 = .ok (.astore_n 2, 1) := by decide +kernel
theorem dL_flaws_12 : decode cL_flaws 12 = .ok (.iconst 1, 1) := by decide +kernel
theorem dL_flaws_13 : decode cL_flaws 13 = .ok (.ireturn, 1) := by decide +kernel
theorem dL_flaws_14 : decode cL_flaws 14 = .ok (.iconst 0, 1) := by decide +kernel
theorem dL_flaws_15 : decode cL_flaws 15 = .ok (.ireturn, 1) := by decide +kernel
theorem dL_digest_0 : decode cL_digest 0 = .ok (.aload_n 1, 1) := by decide +kernel
theorem dL_digest_1 : decode cL_digest 1 = .ok (.iconst 0, 1) := by decide +kernel
theorem dL_digest_2 : decode cL_digest 2 = .ok (.aload_n 0, 1) := by decide +kernel
theorem dL_digest_3 : decode cL_digest 3 = .ok (.invokevirtual 212, 3) := by decide +kernel
theorem dL_digest_6 : decode cL_digest 6 = .ok (.lastore, 1) := by decide +kernel
theorem dL_digest_7 : decode cL_digest 7 = .ok (.goto 6, 3) := by decide +kernel
theorem dL_digest_10 : decode cL_digest 10 = .ok (.astore_n 2, 1) := by decide +kernel
theorem dL_digest_11 : decode cL_digest 11 = .ok (.iconst 1, 1) := by decide +kernel
theorem dL_digest_12 : decode cL_digest 12 = .ok (.ireturn, 1) := by decide +kernel
theorem dL_digest_13 : decode cL_digest 13 = .ok (.iconst 0, 1) := by decide +kernel
theorem dL_digest_14 : decode cL_digest 14 = .ok (.ireturn, 1) := by decide +kernel
