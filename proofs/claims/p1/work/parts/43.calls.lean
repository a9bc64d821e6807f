set_option maxHeartbeats 2000000 in
set_option maxRecDepth 20000 in
theorem g_cloneFile : ((List.range 99).all fun ia2 => ckI (F_X3_cloneFile M0 0 (1 + (ia2 : Int)) 0) (F_X4_cloneFile MR 0 (1 + (ia2 : Int)) 0)) = true := by decide +kernel
set_option maxHeartbeats 2000000 in
set_option maxRecDepth 20000 in
theorem p_cloneFile (a1 : Int) (a2 : Int) (a3 : Int) : okI (F_X3_cloneFile M0 a1 a2 a3) (T_X3_cloneFile M0 a1 a2 a3) (F_X4_cloneFile MR a1 a2 a3) (fun E => if E = 1 then 1 else if E = 2 then 2 else if E = 3 then 3 else 0) := by
  by_cases ha1 : a1 = 0
  · subst ha1
    by_cases ha2 : (1 : Int) ≤ a2 ∧ a2 ≤ 99
    · skip
      by_cases ha3 : a3 = 0
      · subst ha3
        obtain ⟨ia2, hia2, rfl⟩ := in_nat (n := 99) ha2 (by decide)
        exact ckI.ok (List.all_eq_true.mp g_cloneFile ia2 (List.mem_range.mpr hia2))
      · skip
        simp only [T_X3_cloneFile, F_X4_cloneFile, T_X3_needEntry, T_X3_needTwoEntries, T_X3_needLive, T_X3_needBytes, F_X3_needEntry, F_X3_needTwoEntries, F_X3_needLive, F_X3_needBytes, F_X4_isRefused, F_X4_isRefusedNode, F_X4_isRefusedHandle, F_X4_isRefusedAt, F_X4_isRefusedUser, F_X4_isRefusedRow, F_X4_isRefusedBoth, F_X4_isName, xt_n, xt_s, xb1_s, xb2_s, xl_e, t3_pow, f3_pow, t3_node0, f3_node0, t3_open, f4_off, f4_ref, f4_node0, f4_open, mr12, t3_in ha2, f3_in ha2, f4_in ha2, t3_node ha3, f4_node ha3]
        exact okI.t rfl rfl rfl rfl (by decide)
    · skip
      by_cases ha3 : a3 = 0
      · subst ha3
        simp only [T_X3_cloneFile, F_X4_cloneFile, T_X3_needEntry, T_X3_needTwoEntries, T_X3_needLive, T_X3_needBytes, F_X3_needEntry, F_X3_needTwoEntries, F_X3_needLive, F_X3_needBytes, F_X4_isRefused, F_X4_isRefusedNode, F_X4_isRefusedHandle, F_X4_isRefusedAt, F_X4_isRefusedUser, F_X4_isRefusedRow, F_X4_isRefusedBoth, F_X4_isName, xt_n, xt_s, xb1_s, xb2_s, xl_e, t3_pow, f3_pow, t3_node0, f3_node0, t3_open, f4_off, f4_ref, f4_node0, f4_open, mr12, t3_inx ha2, f4_inx ha2]
        exact okI.t rfl rfl rfl rfl (by decide)
      · skip
        simp only [T_X3_cloneFile, F_X4_cloneFile, T_X3_needEntry, T_X3_needTwoEntries, T_X3_needLive, T_X3_needBytes, F_X3_needEntry, F_X3_needTwoEntries, F_X3_needLive, F_X3_needBytes, F_X4_isRefused, F_X4_isRefusedNode, F_X4_isRefusedHandle, F_X4_isRefusedAt, F_X4_isRefusedUser, F_X4_isRefusedRow, F_X4_isRefusedBoth, F_X4_isName, xt_n, xt_s, xb1_s, xb2_s, xl_e, t3_pow, f3_pow, t3_node0, f3_node0, t3_open, f4_off, f4_ref, f4_node0, f4_open, mr12, t3_inx ha2, f4_inx ha2, t3_node ha3, f4_node ha3]
        exact okI.t rfl rfl rfl rfl (by decide)
  · skip
    by_cases ha2 : (1 : Int) ≤ a2 ∧ a2 ≤ 99
    · skip
      by_cases ha3 : a3 = 0
      · subst ha3
        simp only [T_X3_cloneFile, F_X4_cloneFile, T_X3_needEntry, T_X3_needTwoEntries, T_X3_needLive, T_X3_needBytes, F_X3_needEntry, F_X3_needTwoEntries, F_X3_needLive, F_X3_needBytes, F_X4_isRefused, F_X4_isRefusedNode, F_X4_isRefusedHandle, F_X4_isRefusedAt, F_X4_isRefusedUser, F_X4_isRefusedRow, F_X4_isRefusedBoth, F_X4_isName, xt_n, xt_s, xb1_s, xb2_s, xl_e, t3_pow, f3_pow, t3_node0, f3_node0, t3_open, f4_off, f4_ref, f4_node0, f4_open, mr12, t3_node ha1, f4_node ha1, t3_in ha2, f3_in ha2, f4_in ha2]
        exact okI.t rfl rfl rfl rfl (by decide)
      · skip
        simp only [T_X3_cloneFile, F_X4_cloneFile, T_X3_needEntry, T_X3_needTwoEntries, T_X3_needLive, T_X3_needBytes, F_X3_needEntry, F_X3_needTwoEntries, F_X3_needLive, F_X3_needBytes, F_X4_isRefused, F_X4_isRefusedNode, F_X4_isRefusedHandle, F_X4_isRefusedAt, F_X4_isRefusedUser, F_X4_isRefusedRow, F_X4_isRefusedBoth, F_X4_isName, xt_n, xt_s, xb1_s, xb2_s, xl_e, t3_pow, f3_pow, t3_node0, f3_node0, t3_open, f4_off, f4_ref, f4_node0, f4_open, mr12, t3_node ha1, f4_node ha1, t3_in ha2, f3_in ha2, f4_in ha2, t3_node ha3, f4_node ha3]
        exact okI.t rfl rfl rfl rfl (by decide)
    · skip
      by_cases ha3 : a3 = 0
      · subst ha3
        simp only [T_X3_cloneFile, F_X4_cloneFile, T_X3_needEntry, T_X3_needTwoEntries, T_X3_needLive, T_X3_needBytes, F_X3_needEntry, F_X3_needTwoEntries, F_X3_needLive, F_X3_needBytes, F_X4_isRefused, F_X4_isRefusedNode, F_X4_isRefusedHandle, F_X4_isRefusedAt, F_X4_isRefusedUser, F_X4_isRefusedRow, F_X4_isRefusedBoth, F_X4_isName, xt_n, xt_s, xb1_s, xb2_s, xl_e, t3_pow, f3_pow, t3_node0, f3_node0, t3_open, f4_off, f4_ref, f4_node0, f4_open, mr12, t3_node ha1, f4_node ha1, t3_inx ha2, f4_inx ha2]
        exact okI.t rfl rfl rfl rfl (by decide)
      · skip
        simp only [T_X3_cloneFile, F_X4_cloneFile, T_X3_needEntry, T_X3_needTwoEntries, T_X3_needLive, T_X3_needBytes, F_X3_needEntry, F_X3_needTwoEntries, F_X3_needLive, F_X3_needBytes, F_X4_isRefused, F_X4_isRefusedNode, F_X4_isRefusedHandle, F_X4_isRefusedAt, F_X4_isRefusedUser, F_X4_isRefusedRow, F_X4_isRefusedBoth, F_X4_isName, xt_n, xt_s, xb1_s, xb2_s, xl_e, t3_pow, f3_pow, t3_node0, f3_node0, t3_open, f4_off, f4_ref, f4_node0, f4_open, mr12, t3_node ha1, f4_node ha1, t3_inx ha2, f4_inx ha2, t3_node ha3, f4_node ha3]
        exact okI.t rfl rfl rfl rfl (by decide)
set_option maxHeartbeats 2000000 in
set_option maxRecDepth 20000 in
theorem g_addName : ((List.range 99).all fun ia2 => ckI (F_X3_addName M0 0 (1 + (ia2 : Int)) 0) (F_X4_addName MR 0 (1 + (ia2 : Int)) 0)) = true := by decide +kernel
set_option maxHeartbeats 2000000 in
set_option maxRecDepth 20000 in
theorem p_addName (a1 : Int) (a2 : Int) (a3 : Int) : okI (F_X3_addName M0 a1 a2 a3) (T_X3_addName M0 a1 a2 a3) (F_X4_addName MR a1 a2 a3) (fun E => if E = 1 then 1 else if E = 2 then 2 else if E = 3 then 3 else 0) := by
  by_cases ha1 : a1 = 0
  · subst ha1
    by_cases ha2 : (1 : Int) ≤ a2 ∧ a2 ≤ 99
    · skip
      by_cases ha3 : a3 = 0
      · subst ha3
        obtain ⟨ia2, hia2, rfl⟩ := in_nat (n := 99) ha2 (by decide)
        exact ckI.ok (List.all_eq_true.mp g_addName ia2 (List.mem_range.mpr hia2))
      · skip
        simp only [T_X3_addName, F_X4_addName, T_X3_needEntry, T_X3_needTwoEntries, T_X3_needLive, T_X3_needBytes, F_X3_needEntry, F_X3_needTwoEntries, F_X3_needLive, F_X3_needBytes, F_X4_isRefused, F_X4_isRefusedNode, F_X4_isRefusedHandle, F_X4_isRefusedAt, F_X4_isRefusedUser, F_X4_isRefusedRow, F_X4_isRefusedBoth, F_X4_isName, xt_n, xt_s, xb1_s, xb2_s, xl_e, t3_pow, f3_pow, t3_node0, f3_node0, t3_open, f4_off, f4_ref, f4_node0, f4_open, mr12, t3_in ha2, f3_in ha2, f4_in ha2, t3_node ha3, f4_node ha3]
        exact okI.t rfl rfl rfl rfl (by decide)
    · skip
      by_cases ha3 : a3 = 0
      · subst ha3
        simp only [T_X3_addName, F_X4_addName, T_X3_needEntry, T_X3_needTwoEntries, T_X3_needLive, T_X3_needBytes, F_X3_needEntry, F_X3_needTwoEntries, F_X3_needLive, F_X3_needBytes, F_X4_isRefused, F_X4_isRefusedNode, F_X4_isRefusedHandle, F_X4_isRefusedAt, F_X4_isRefusedUser, F_X4_isRefusedRow, F_X4_isRefusedBoth, F_X4_isName, xt_n, xt_s, xb1_s, xb2_s, xl_e, t3_pow, f3_pow, t3_node0, f3_node0, t3_open, f4_off, f4_ref, f4_node0, f4_open, mr12, t3_inx ha2, f4_inx ha2]
        exact okI.t rfl rfl rfl rfl (by decide)
      · skip
        simp only [T_X3_addName, F_X4_addName, T_X3_needEntry, T_X3_needTwoEntries, T_X3_needLive, T_X3_needBytes, F_X3_needEntry, F_X3_needTwoEntries, F_X3_needLive, F_X3_needBytes, F_X4_isRefused, F_X4_isRefusedNode, F_X4_isRefusedHandle, F_X4_isRefusedAt, F_X4_isRefusedUser, F_X4_isRefusedRow, F_X4_isRefusedBoth, F_X4_isName, xt_n, xt_s, xb1_s, xb2_s, xl_e, t3_pow, f3_pow, t3_node0, f3_node0, t3_open, f4_off, f4_ref, f4_node0, f4_open, mr12, t3_inx ha2, f4_inx ha2, t3_node ha3, f4_node ha3]
        exact okI.t rfl rfl rfl rfl (by decide)
  · skip
    by_cases ha2 : (1 : Int) ≤ a2 ∧ a2 ≤ 99
    · skip
      by_cases ha3 : a3 = 0
      · subst ha3
        simp only [T_X3_addName, F_X4_addName, T_X3_needEntry, T_X3_needTwoEntries, T_X3_needLive, T_X3_needBytes, F_X3_needEntry, F_X3_needTwoEntries, F_X3_needLive, F_X3_needBytes, F_X4_isRefused, F_X4_isRefusedNode, F_X4_isRefusedHandle, F_X4_isRefusedAt, F_X4_isRefusedUser, F_X4_isRefusedRow, F_X4_isRefusedBoth, F_X4_isName, xt_n, xt_s, xb1_s, xb2_s, xl_e, t3_pow, f3_pow, t3_node0, f3_node0, t3_open, f4_off, f4_ref, f4_node0, f4_open, mr12, t3_node ha1, f4_node ha1, t3_in ha2, f3_in ha2, f4_in ha2]
        exact okI.t rfl rfl rfl rfl (by decide)
      · skip
        simp only [T_X3_addName, F_X4_addName, T_X3_needEntry, T_X3_needTwoEntries, T_X3_needLive, T_X3_needBytes, F_X3_needEntry, F_X3_needTwoEntries, F_X3_needLive, F_X3_needBytes, F_X4_isRefused, F_X4_isRefusedNode, F_X4_isRefusedHandle, F_X4_isRefusedAt, F_X4_isRefusedUser, F_X4_isRefusedRow, F_X4_isRefusedBoth, F_X4_isName, xt_n, xt_s, xb1_s, xb2_s, xl_e, t3_pow, f3_pow, t3_node0, f3_node0, t3_open, f4_off, f4_ref, f4_node0, f4_open, mr12, t3_node ha1, f4_node ha1, t3_in ha2, f3_in ha2, f4_in ha2, t3_node ha3, f4_node ha3]
        exact okI.t rfl rfl rfl rfl (by decide)
    · skip
      by_cases ha3 : a3 = 0
      · subst ha3
        simp only [T_X3_addName, F_X4_addName, T_X3_needEntry, T_X3_needTwoEntries, T_X3_needLive, T_X3_needBytes, F_X3_needEntry, F_X3_needTwoEntries, F_X3_needLive, F_X3_needBytes, F_X4_isRefused, F_X4_isRefusedNode, F_X4_isRefusedHandle, F_X4_isRefusedAt, F_X4_isRefusedUser, F_X4_isRefusedRow, F_X4_isRefusedBoth, F_X4_isName, xt_n, xt_s, xb1_s, xb2_s, xl_e, t3_pow, f3_pow, t3_node0, f3_node0, t3_open, f4_off, f4_ref, f4_node0, f4_open, mr12, t3_node ha1, f4_node ha1, t3_inx ha2, f4_inx ha2]
        exact okI.t rfl rfl rfl rfl (by decide)
      · skip
        simp only [T_X3_addName, F_X4_addName, T_X3_needEntry, T_X3_needTwoEntries, T_X3_needLive, T_X3_needBytes, F_X3_needEntry, F_X3_needTwoEntries, F_X3_needLive, F_X3_needBytes, F_X4_isRefused, F_X4_isRefusedNode, F_X4_isRefusedHandle, F_X4_isRefusedAt, F_X4_isRefusedUser, F_X4_isRefusedRow, F_X4_isRefusedBoth, F_X4_isName, xt_n, xt_s, xb1_s, xb2_s, xl_e, t3_pow, f3_pow, t3_node0, f3_node0, t3_open, f4_off, f4_ref, f4_node0, f4_open, mr12, t3_node ha1, f4_node ha1, t3_inx ha2, f4_inx ha2, t3_node ha3, f4_node ha3]
        exact okI.t rfl rfl rfl rfl (by decide)
set_option maxHeartbeats 2000000 in
set_option maxRecDepth 20000 in
theorem g_unlink : ((List.range 99).all fun ia2 => ckI (F_X3_unlink M0 0 (1 + (ia2 : Int))) (F_X4_unlink MR 0 (1 + (ia2 : Int)))) = true := by decide +kernel
set_option maxHeartbeats 2000000 in
set_option maxRecDepth 20000 in
theorem p_unlink (a1 : Int) (a2 : Int) : okI (F_X3_unlink M0 a1 a2) (T_X3_unlink M0 a1 a2) (F_X4_unlink MR a1 a2) (fun E => if E = 1 then 1 else if E = 2 then 2 else if E = 3 then 3 else 0) := by
  by_cases ha1 : a1 = 0
  · subst ha1
    by_cases ha2 : (1 : Int) ≤ a2 ∧ a2 ≤ 99
    · skip
      obtain ⟨ia2, hia2, rfl⟩ := in_nat (n := 99) ha2 (by decide)
      exact ckI.ok (List.all_eq_true.mp g_unlink ia2 (List.mem_range.mpr hia2))
    · skip
      simp only [T_X3_unlink, F_X4_unlink, T_X3_needEntry, T_X3_needTwoEntries, T_X3_needLive, T_X3_needBytes, F_X3_needEntry, F_X3_needTwoEntries, F_X3_needLive, F_X3_needBytes, F_X4_isRefused, F_X4_isRefusedNode, F_X4_isRefusedHandle, F_X4_isRefusedAt, F_X4_isRefusedUser, F_X4_isRefusedRow, F_X4_isRefusedBoth, F_X4_isName, xt_n, xt_s, xb1_s, xb2_s, xl_e, t3_pow, f3_pow, t3_node0, f3_node0, t3_open, f4_off, f4_ref, f4_node0, f4_open, mr12, t3_inx ha2, f4_inx ha2]
      exact okI.t rfl rfl rfl rfl (by decide)
  · skip
    by_cases ha2 : (1 : Int) ≤ a2 ∧ a2 ≤ 99
    · skip
      simp only [T_X3_unlink, F_X4_unlink, T_X3_needEntry, T_X3_needTwoEntries, T_X3_needLive, T_X3_needBytes, F_X3_needEntry, F_X3_needTwoEntries, F_X3_needLive, F_X3_needBytes, F_X4_isRefused, F_X4_isRefusedNode, F_X4_isRefusedHandle, F_X4_isRefusedAt, F_X4_isRefusedUser, F_X4_isRefusedRow, F_X4_isRefusedBoth, F_X4_isName, xt_n, xt_s, xb1_s, xb2_s, xl_e, t3_pow, f3_pow, t3_node0, f3_node0, t3_open, f4_off, f4_ref, f4_node0, f4_open, mr12, t3_node ha1, f4_node ha1, t3_in ha2, f3_in ha2, f4_in ha2]
      exact okI.t rfl rfl rfl rfl (by decide)
    · skip
      simp only [T_X3_unlink, F_X4_unlink, T_X3_needEntry, T_X3_needTwoEntries, T_X3_needLive, T_X3_needBytes, F_X3_needEntry, F_X3_needTwoEntries, F_X3_needLive, F_X3_needBytes, F_X4_isRefused, F_X4_isRefusedNode, F_X4_isRefusedHandle, F_X4_isRefusedAt, F_X4_isRefusedUser, F_X4_isRefusedRow, F_X4_isRefusedBoth, F_X4_isName, xt_n, xt_s, xb1_s, xb2_s, xl_e, t3_pow, f3_pow, t3_node0, f3_node0, t3_open, f4_off, f4_ref, f4_node0, f4_open, mr12, t3_node ha1, f4_node ha1, t3_inx ha2, f4_inx ha2]
      exact okI.t rfl rfl rfl rfl (by decide)
set_option maxHeartbeats 2000000 in
set_option maxRecDepth 20000 in
theorem g_removeFolder : ((List.range 99).all fun ia2 => ckI (F_X3_removeFolder M0 0 (1 + (ia2 : Int))) (F_X4_removeFolder MR 0 (1 + (ia2 : Int)))) = true := by decide +kernel
set_option maxHeartbeats 2000000 in
set_option maxRecDepth 20000 in
theorem p_removeFolder (a1 : Int) (a2 : Int) : okI (F_X3_removeFolder M0 a1 a2) (T_X3_removeFolder M0 a1 a2) (F_X4_removeFolder MR a1 a2) (fun E => if E = 1 then 1 else if E = 2 then 2 else if E = 3 then 3 else 0) := by
  by_cases ha1 : a1 = 0
  · subst ha1
    by_cases ha2 : (1 : Int) ≤ a2 ∧ a2 ≤ 99
    · skip
      obtain ⟨ia2, hia2, rfl⟩ := in_nat (n := 99) ha2 (by decide)
      exact ckI.ok (List.all_eq_true.mp g_removeFolder ia2 (List.mem_range.mpr hia2))
    · skip
      simp only [T_X3_removeFolder, F_X4_removeFolder, T_X3_needEntry, T_X3_needTwoEntries, T_X3_needLive, T_X3_needBytes, F_X3_needEntry, F_X3_needTwoEntries, F_X3_needLive, F_X3_needBytes, F_X4_isRefused, F_X4_isRefusedNode, F_X4_isRefusedHandle, F_X4_isRefusedAt, F_X4_isRefusedUser, F_X4_isRefusedRow, F_X4_isRefusedBoth, F_X4_isName, xt_n, xt_s, xb1_s, xb2_s, xl_e, t3_pow, f3_pow, t3_node0, f3_node0, t3_open, f4_off, f4_ref, f4_node0, f4_open, mr12, t3_inx ha2, f4_inx ha2]
      exact okI.t rfl rfl rfl rfl (by decide)
  · skip
    by_cases ha2 : (1 : Int) ≤ a2 ∧ a2 ≤ 99
    · skip
      simp only [T_X3_removeFolder, F_X4_removeFolder, T_X3_needEntry, T_X3_needTwoEntries, T_X3_needLive, T_X3_needBytes, F_X3_needEntry, F_X3_needTwoEntries, F_X3_needLive, F_X3_needBytes, F_X4_isRefused, F_X4_isRefusedNode, F_X4_isRefusedHandle, F_X4_isRefusedAt, F_X4_isRefusedUser, F_X4_isRefusedRow, F_X4_isRefusedBoth, F_X4_isName, xt_n, xt_s, xb1_s, xb2_s, xl_e, t3_pow, f3_pow, t3_node0, f3_node0, t3_open, f4_off, f4_ref, f4_node0, f4_open, mr12, t3_node ha1, f4_node ha1, t3_in ha2, f3_in ha2, f4_in ha2]
      exact okI.t rfl rfl rfl rfl (by decide)
    · skip
      simp only [T_X3_removeFolder, F_X4_removeFolder, T_X3_needEntry, T_X3_needTwoEntries, T_X3_needLive, T_X3_needBytes, F_X3_needEntry, F_X3_needTwoEntries, F_X3_needLive, F_X3_needBytes, F_X4_isRefused, F_X4_isRefusedNode, F_X4_isRefusedHandle, F_X4_isRefusedAt, F_X4_isRefusedUser, F_X4_isRefusedRow, F_X4_isRefusedBoth, F_X4_isName, xt_n, xt_s, xb1_s, xb2_s, xl_e, t3_pow, f3_pow, t3_node0, f3_node0, t3_open, f4_off, f4_ref, f4_node0, f4_open, mr12, t3_node ha1, f4_node ha1, t3_inx ha2, f4_inx ha2]
      exact okI.t rfl rfl rfl rfl (by decide)
set_option maxHeartbeats 2000000 in
set_option maxRecDepth 20000 in
theorem p_write (a1 : Int) (a2 : Int) (a3 : Int) : okI (F_X3_write M0 a1 a2 a3) (T_X3_write M0 a1 a2 a3) (F_X4_write MR a1 a2 a3) (fun E => if E = 1 then 1 else if E = 2 then 2 else if E = 3 then 3 else 0) := by
  simp only [T_X3_write, F_X4_write, F_X4_write_47, F_X4_write_53, T_X3_needEntry, T_X3_needTwoEntries, T_X3_needLive, T_X3_needBytes, F_X3_needEntry, F_X3_needTwoEntries, F_X3_needLive, F_X3_needBytes, F_X4_isRefused, F_X4_isRefusedNode, F_X4_isRefusedHandle, F_X4_isRefusedAt, F_X4_isRefusedUser, F_X4_isRefusedRow, F_X4_isRefusedBoth, F_X4_isName, xt_n, xt_s, xb1_s, xb2_s, xl_e, t3_pow, f3_pow, t3_node0, f3_node0, t3_open, f4_off, f4_ref, f4_node0, f4_open, mr12]
  exact okI.t rfl rfl rfl rfl (by decide)
set_option maxHeartbeats 2000000 in
set_option maxRecDepth 20000 in
theorem g_truncate : ((List.range 321).all fun ia2 => ckI (F_X3_truncate M0 0 (0 + (ia2 : Int))) (F_X4_truncate MR 0 (0 + (ia2 : Int)))) = true := by decide +kernel
set_option maxHeartbeats 2000000 in
set_option maxRecDepth 20000 in
theorem p_truncate (a1 : Int) (a2 : Int) : okI (F_X3_truncate M0 a1 a2) (T_X3_truncate M0 a1 a2) (F_X4_truncate MR a1 a2) (fun E => if E = 1 then 1 else if E = 2 then 2 else if E = 3 then 3 else 0) := by
  by_cases ha1 : a1 = 0
  · subst ha1
    by_cases ha2 : (0 : Int) ≤ a2 ∧ a2 ≤ 320
    · skip
      obtain ⟨ia2, hia2, rfl⟩ := in_nat (n := 321) ha2 (by decide)
      exact ckI.ok (List.all_eq_true.mp g_truncate ia2 (List.mem_range.mpr hia2))
    · skip
      simp only [T_X3_truncate, F_X4_truncate, F_X4_truncate_43, T_X3_needEntry, T_X3_needTwoEntries, T_X3_needLive, T_X3_needBytes, F_X3_needEntry, F_X3_needTwoEntries, F_X3_needLive, F_X3_needBytes, F_X4_isRefused, F_X4_isRefusedNode, F_X4_isRefusedHandle, F_X4_isRefusedAt, F_X4_isRefusedUser, F_X4_isRefusedRow, F_X4_isRefusedBoth, F_X4_isName, xt_n, xt_s, xb1_s, xb2_s, xl_e, t3_pow, f3_pow, t3_node0, f3_node0, t3_open, f4_off, f4_ref, f4_node0, f4_open, mr12, t3_inx ha2, f4_inx ha2]
      exact okI.t rfl rfl rfl rfl (by decide)
  · skip
    by_cases ha2 : (0 : Int) ≤ a2 ∧ a2 ≤ 320
    · skip
      simp only [T_X3_truncate, F_X4_truncate, F_X4_truncate_43, T_X3_needEntry, T_X3_needTwoEntries, T_X3_needLive, T_X3_needBytes, F_X3_needEntry, F_X3_needTwoEntries, F_X3_needLive, F_X3_needBytes, F_X4_isRefused, F_X4_isRefusedNode, F_X4_isRefusedHandle, F_X4_isRefusedAt, F_X4_isRefusedUser, F_X4_isRefusedRow, F_X4_isRefusedBoth, F_X4_isName, xt_n, xt_s, xb1_s, xb2_s, xl_e, t3_pow, f3_pow, t3_node0, f3_node0, t3_open, f4_off, f4_ref, f4_node0, f4_open, mr12, t3_node ha1, f4_node ha1, t3_in ha2, f3_in ha2, f4_in ha2]
      exact okI.t rfl rfl rfl rfl (by decide)
    · skip
      simp only [T_X3_truncate, F_X4_truncate, F_X4_truncate_43, T_X3_needEntry, T_X3_needTwoEntries, T_X3_needLive, T_X3_needBytes, F_X3_needEntry, F_X3_needTwoEntries, F_X3_needLive, F_X3_needBytes, F_X4_isRefused, F_X4_isRefusedNode, F_X4_isRefusedHandle, F_X4_isRefusedAt, F_X4_isRefusedUser, F_X4_isRefusedRow, F_X4_isRefusedBoth, F_X4_isName, xt_n, xt_s, xb1_s, xb2_s, xl_e, t3_pow, f3_pow, t3_node0, f3_node0, t3_open, f4_off, f4_ref, f4_node0, f4_open, mr12, t3_node ha1, f4_node ha1, t3_inx ha2, f4_inx ha2]
      exact okI.t rfl rfl rfl rfl (by decide)
set_option maxHeartbeats 2000000 in
set_option maxRecDepth 20000 in
theorem g_punch : ((List.range 20).all fun ia2 => ckI (F_X3_punch M0 0 (0 + (ia2 : Int))) (F_X4_punch MR 0 (0 + (ia2 : Int)))) = true := by decide +kernel
set_option maxHeartbeats 2000000 in
set_option maxRecDepth 20000 in
theorem p_punch (a1 : Int) (a2 : Int) : okI (F_X3_punch M0 a1 a2) (T_X3_punch M0 a1 a2) (F_X4_punch MR a1 a2) (fun E => if E = 1 then 1 else if E = 2 then 2 else if E = 3 then 3 else 0) := by
  by_cases ha1 : a1 = 0
  · subst ha1
    by_cases ha2 : (0 : Int) ≤ a2 ∧ a2 ≤ 19
    · skip
      obtain ⟨ia2, hia2, rfl⟩ := in_nat (n := 20) ha2 (by decide)
      exact ckI.ok (List.all_eq_true.mp g_punch ia2 (List.mem_range.mpr hia2))
    · skip
      simp only [T_X3_punch, F_X4_punch, F_X4_punch_57, T_X3_needEntry, T_X3_needTwoEntries, T_X3_needLive, T_X3_needBytes, F_X3_needEntry, F_X3_needTwoEntries, F_X3_needLive, F_X3_needBytes, F_X4_isRefused, F_X4_isRefusedNode, F_X4_isRefusedHandle, F_X4_isRefusedAt, F_X4_isRefusedUser, F_X4_isRefusedRow, F_X4_isRefusedBoth, F_X4_isName, xt_n, xt_s, xb1_s, xb2_s, xl_e, t3_pow, f3_pow, t3_node0, f3_node0, t3_open, f4_off, f4_ref, f4_node0, f4_open, mr12, t3_inx ha2, f4_inx ha2]
      exact okI.t rfl rfl rfl rfl (by decide)
  · skip
    by_cases ha2 : (0 : Int) ≤ a2 ∧ a2 ≤ 19
    · skip
      simp only [T_X3_punch, F_X4_punch, F_X4_punch_57, T_X3_needEntry, T_X3_needTwoEntries, T_X3_needLive, T_X3_needBytes, F_X3_needEntry, F_X3_needTwoEntries, F_X3_needLive, F_X3_needBytes, F_X4_isRefused, F_X4_isRefusedNode, F_X4_isRefusedHandle, F_X4_isRefusedAt, F_X4_isRefusedUser, F_X4_isRefusedRow, F_X4_isRefusedBoth, F_X4_isName, xt_n, xt_s, xb1_s, xb2_s, xl_e, t3_pow, f3_pow, t3_node0, f3_node0, t3_open, f4_off, f4_ref, f4_node0, f4_open, mr12, t3_node ha1, f4_node ha1, t3_in ha2, f3_in ha2, f4_in ha2]
      exact okI.t rfl rfl rfl rfl (by decide)
    · skip
      simp only [T_X3_punch, F_X4_punch, F_X4_punch_57, T_X3_needEntry, T_X3_needTwoEntries, T_X3_needLive, T_X3_needBytes, F_X3_needEntry, F_X3_needTwoEntries, F_X3_needLive, F_X3_needBytes, F_X4_isRefused, F_X4_isRefusedNode, F_X4_isRefusedHandle, F_X4_isRefusedAt, F_X4_isRefusedUser, F_X4_isRefusedRow, F_X4_isRefusedBoth, F_X4_isName, xt_n, xt_s, xb1_s, xb2_s, xl_e, t3_pow, f3_pow, t3_node0, f3_node0, t3_open, f4_off, f4_ref, f4_node0, f4_open, mr12, t3_node ha1, f4_node ha1, t3_inx ha2, f4_inx ha2]
      exact okI.t rfl rfl rfl rfl (by decide)
set_option maxHeartbeats 2000000 in
set_option maxRecDepth 20000 in
theorem g_share : ((List.range 20).all fun ia2 => (List.range 20).all fun ia4 => ckI (F_X3_share M0 0 (0 + (ia2 : Int)) 0 (0 + (ia4 : Int))) (F_X4_share MR 0 (0 + (ia2 : Int)) 0 (0 + (ia4 : Int)))) = true := by decide +kernel
set_option maxHeartbeats 2000000 in
set_option maxRecDepth 20000 in
theorem p_share (a1 : Int) (a2 : Int) (a3 : Int) (a4 : Int) : okI (F_X3_share M0 a1 a2 a3 a4) (T_X3_share M0 a1 a2 a3 a4) (F_X4_share MR a1 a2 a3 a4) (fun E => if E = 1 then 1 else if E = 2 then 2 else if E = 3 then 3 else 0) := by
  by_cases ha1 : a1 = 0
  · subst ha1
    by_cases ha2 : (0 : Int) ≤ a2 ∧ a2 ≤ 19
    · skip
      by_cases ha3 : a3 = 0
      · subst ha3
        by_cases ha4 : (0 : Int) ≤ a4 ∧ a4 ≤ 19
        · skip
          obtain ⟨ia2, hia2, rfl⟩ := in_nat (n := 20) ha2 (by decide)
          obtain ⟨ia4, hia4, rfl⟩ := in_nat (n := 20) ha4 (by decide)
          exact ckI.ok (List.all_eq_true.mp (List.all_eq_true.mp g_share ia2 (List.mem_range.mpr hia2)) ia4 (List.mem_range.mpr hia4))
        · skip
          simp only [T_X3_share, F_X4_share, F_X4_share_25, F_X4_share_55, F_X4_share_61, T_X3_share_94, T_X3_needEntry, T_X3_needTwoEntries, T_X3_needLive, T_X3_needBytes, F_X3_needEntry, F_X3_needTwoEntries, F_X3_needLive, F_X3_needBytes, F_X4_isRefused, F_X4_isRefusedNode, F_X4_isRefusedHandle, F_X4_isRefusedAt, F_X4_isRefusedUser, F_X4_isRefusedRow, F_X4_isRefusedBoth, F_X4_isName, xt_n, xt_s, xb1_s, xb2_s, xl_e, t3_pow, f3_pow, t3_node0, f3_node0, t3_open, f4_off, f4_ref, f4_node0, f4_open, mr12, t3_in ha2, f3_in ha2, f4_in ha2, t3_inx ha4, f4_inx ha4]
          exact okI.t rfl rfl rfl rfl (by decide)
      · skip
        by_cases ha4 : (0 : Int) ≤ a4 ∧ a4 ≤ 19
        · skip
          simp only [T_X3_share, F_X4_share, F_X4_share_25, F_X4_share_55, F_X4_share_61, T_X3_share_94, T_X3_needEntry, T_X3_needTwoEntries, T_X3_needLive, T_X3_needBytes, F_X3_needEntry, F_X3_needTwoEntries, F_X3_needLive, F_X3_needBytes, F_X4_isRefused, F_X4_isRefusedNode, F_X4_isRefusedHandle, F_X4_isRefusedAt, F_X4_isRefusedUser, F_X4_isRefusedRow, F_X4_isRefusedBoth, F_X4_isName, xt_n, xt_s, xb1_s, xb2_s, xl_e, t3_pow, f3_pow, t3_node0, f3_node0, t3_open, f4_off, f4_ref, f4_node0, f4_open, mr12, t3_in ha2, f3_in ha2, f4_in ha2, t3_node ha3, f4_node ha3, t3_in ha4, f3_in ha4, f4_in ha4]
          exact okI.t rfl rfl rfl rfl (by decide)
        · skip
          simp only [T_X3_share, F_X4_share, F_X4_share_25, F_X4_share_55, F_X4_share_61, T_X3_share_94, T_X3_needEntry, T_X3_needTwoEntries, T_X3_needLive, T_X3_needBytes, F_X3_needEntry, F_X3_needTwoEntries, F_X3_needLive, F_X3_needBytes, F_X4_isRefused, F_X4_isRefusedNode, F_X4_isRefusedHandle, F_X4_isRefusedAt, F_X4_isRefusedUser, F_X4_isRefusedRow, F_X4_isRefusedBoth, F_X4_isName, xt_n, xt_s, xb1_s, xb2_s, xl_e, t3_pow, f3_pow, t3_node0, f3_node0, t3_open, f4_off, f4_ref, f4_node0, f4_open, mr12, t3_in ha2, f3_in ha2, f4_in ha2, t3_node ha3, f4_node ha3, t3_inx ha4, f4_inx ha4]
          exact okI.t rfl rfl rfl rfl (by decide)
    · skip
      by_cases ha3 : a3 = 0
      · subst ha3
        by_cases ha4 : (0 : Int) ≤ a4 ∧ a4 ≤ 19
        · skip
          simp only [T_X3_share, F_X4_share, F_X4_share_25, F_X4_share_55, F_X4_share_61, T_X3_share_94, T_X3_needEntry, T_X3_needTwoEntries, T_X3_needLive, T_X3_needBytes, F_X3_needEntry, F_X3_needTwoEntries, F_X3_needLive, F_X3_needBytes, F_X4_isRefused, F_X4_isRefusedNode, F_X4_isRefusedHandle, F_X4_isRefusedAt, F_X4_isRefusedUser, F_X4_isRefusedRow, F_X4_isRefusedBoth, F_X4_isName, xt_n, xt_s, xb1_s, xb2_s, xl_e, t3_pow, f3_pow, t3_node0, f3_node0, t3_open, f4_off, f4_ref, f4_node0, f4_open, mr12, t3_inx ha2, f4_inx ha2, t3_in ha4, f3_in ha4, f4_in ha4]
          exact okI.t rfl rfl rfl rfl (by decide)
        · skip
          simp only [T_X3_share, F_X4_share, F_X4_share_25, F_X4_share_55, F_X4_share_61, T_X3_share_94, T_X3_needEntry, T_X3_needTwoEntries, T_X3_needLive, T_X3_needBytes, F_X3_needEntry, F_X3_needTwoEntries, F_X3_needLive, F_X3_needBytes, F_X4_isRefused, F_X4_isRefusedNode, F_X4_isRefusedHandle, F_X4_isRefusedAt, F_X4_isRefusedUser, F_X4_isRefusedRow, F_X4_isRefusedBoth, F_X4_isName, xt_n, xt_s, xb1_s, xb2_s, xl_e, t3_pow, f3_pow, t3_node0, f3_node0, t3_open, f4_off, f4_ref, f4_node0, f4_open, mr12, t3_inx ha2, f4_inx ha2, t3_inx ha4, f4_inx ha4]
          exact okI.t rfl rfl rfl rfl (by decide)
      · skip
        by_cases ha4 : (0 : Int) ≤ a4 ∧ a4 ≤ 19
        · skip
          simp only [T_X3_share, F_X4_share, F_X4_share_25, F_X4_share_55, F_X4_share_61, T_X3_share_94, T_X3_needEntry, T_X3_needTwoEntries, T_X3_needLive, T_X3_needBytes, F_X3_needEntry, F_X3_needTwoEntries, F_X3_needLive, F_X3_needBytes, F_X4_isRefused, F_X4_isRefusedNode, F_X4_isRefusedHandle, F_X4_isRefusedAt, F_X4_isRefusedUser, F_X4_isRefusedRow, F_X4_isRefusedBoth, F_X4_isName, xt_n, xt_s, xb1_s, xb2_s, xl_e, t3_pow, f3_pow, t3_node0, f3_node0, t3_open, f4_off, f4_ref, f4_node0, f4_open, mr12, t3_inx ha2, f4_inx ha2, t3_node ha3, f4_node ha3, t3_in ha4, f3_in ha4, f4_in ha4]
          exact okI.t rfl rfl rfl rfl (by decide)
        · skip
          simp only [T_X3_share, F_X4_share, F_X4_share_25, F_X4_share_55, F_X4_share_61, T_X3_share_94, T_X3_needEntry, T_X3_needTwoEntries, T_X3_needLive, T_X3_needBytes, F_X3_needEntry, F_X3_needTwoEntries, F_X3_needLive, F_X3_needBytes, F_X4_isRefused, F_X4_isRefusedNode, F_X4_isRefusedHandle, F_X4_isRefusedAt, F_X4_isRefusedUser, F_X4_isRefusedRow, F_X4_isRefusedBoth, F_X4_isName, xt_n, xt_s, xb1_s, xb2_s, xl_e, t3_pow, f3_pow, t3_node0, f3_node0, t3_open, f4_off, f4_ref, f4_node0, f4_open, mr12, t3_inx ha2, f4_inx ha2, t3_node ha3, f4_node ha3, t3_inx ha4, f4_inx ha4]
          exact okI.t rfl rfl rfl rfl (by decide)
  · skip
    by_cases ha2 : (0 : Int) ≤ a2 ∧ a2 ≤ 19
    · skip
      by_cases ha3 : a3 = 0
      · subst ha3
        by_cases ha4 : (0 : Int) ≤ a4 ∧ a4 ≤ 19
        · skip
          simp only [T_X3_share, F_X4_share, F_X4_share_25, F_X4_share_55, F_X4_share_61, T_X3_share_94, T_X3_needEntry, T_X3_needTwoEntries, T_X3_needLive, T_X3_needBytes, F_X3_needEntry, F_X3_needTwoEntries, F_X3_needLive, F_X3_needBytes, F_X4_isRefused, F_X4_isRefusedNode, F_X4_isRefusedHandle, F_X4_isRefusedAt, F_X4_isRefusedUser, F_X4_isRefusedRow, F_X4_isRefusedBoth, F_X4_isName, xt_n, xt_s, xb1_s, xb2_s, xl_e, t3_pow, f3_pow, t3_node0, f3_node0, t3_open, f4_off, f4_ref, f4_node0, f4_open, mr12, t3_node ha1, f4_node ha1, t3_in ha2, f3_in ha2, f4_in ha2, t3_in ha4, f3_in ha4, f4_in ha4]
          exact okI.t rfl rfl rfl rfl (by decide)
        · skip
          simp only [T_X3_share, F_X4_share, F_X4_share_25, F_X4_share_55, F_X4_share_61, T_X3_share_94, T_X3_needEntry, T_X3_needTwoEntries, T_X3_needLive, T_X3_needBytes, F_X3_needEntry, F_X3_needTwoEntries, F_X3_needLive, F_X3_needBytes, F_X4_isRefused, F_X4_isRefusedNode, F_X4_isRefusedHandle, F_X4_isRefusedAt, F_X4_isRefusedUser, F_X4_isRefusedRow, F_X4_isRefusedBoth, F_X4_isName, xt_n, xt_s, xb1_s, xb2_s, xl_e, t3_pow, f3_pow, t3_node0, f3_node0, t3_open, f4_off, f4_ref, f4_node0, f4_open, mr12, t3_node ha1, f4_node ha1, t3_in ha2, f3_in ha2, f4_in ha2, t3_inx ha4, f4_inx ha4]
          exact okI.t rfl rfl rfl rfl (by decide)
      · skip
        by_cases ha4 : (0 : Int) ≤ a4 ∧ a4 ≤ 19
        · skip
          simp only [T_X3_share, F_X4_share, F_X4_share_25, F_X4_share_55, F_X4_share_61, T_X3_share_94, T_X3_needEntry, T_X3_needTwoEntries, T_X3_needLive, T_X3_needBytes, F_X3_needEntry, F_X3_needTwoEntries, F_X3_needLive, F_X3_needBytes, F_X4_isRefused, F_X4_isRefusedNode, F_X4_isRefusedHandle, F_X4_isRefusedAt, F_X4_isRefusedUser, F_X4_isRefusedRow, F_X4_isRefusedBoth, F_X4_isName, xt_n, xt_s, xb1_s, xb2_s, xl_e, t3_pow, f3_pow, t3_node0, f3_node0, t3_open, f4_off, f4_ref, f4_node0, f4_open, mr12, t3_node ha1, f4_node ha1, t3_in ha2, f3_in ha2, f4_in ha2, t3_node ha3, f4_node ha3, t3_in ha4, f3_in ha4, f4_in ha4]
          exact okI.t rfl rfl rfl rfl (by decide)
        · skip
          simp only [T_X3_share, F_X4_share, F_X4_share_25, F_X4_share_55, F_X4_share_61, T_X3_share_94, T_X3_needEntry, T_X3_needTwoEntries, T_X3_needLive, T_X3_needBytes, F_X3_needEntry, F_X3_needTwoEntries, F_X3_needLive, F_X3_needBytes, F_X4_isRefused, F_X4_isRefusedNode, F_X4_isRefusedHandle, F_X4_isRefusedAt, F_X4_isRefusedUser, F_X4_isRefusedRow, F_X4_isRefusedBoth, F_X4_isName, xt_n, xt_s, xb1_s, xb2_s, xl_e, t3_pow, f3_pow, t3_node0, f3_node0, t3_open, f4_off, f4_ref, f4_node0, f4_open, mr12, t3_node ha1, f4_node ha1, t3_in ha2, f3_in ha2, f4_in ha2, t3_node ha3, f4_node ha3, t3_inx ha4, f4_inx ha4]
          exact okI.t rfl rfl rfl rfl (by decide)
    · skip
      by_cases ha3 : a3 = 0
      · subst ha3
        by_cases ha4 : (0 : Int) ≤ a4 ∧ a4 ≤ 19
        · skip
          simp only [T_X3_share, F_X4_share, F_X4_share_25, F_X4_share_55, F_X4_share_61, T_X3_share_94, T_X3_needEntry, T_X3_needTwoEntries, T_X3_needLive, T_X3_needBytes, F_X3_needEntry, F_X3_needTwoEntries, F_X3_needLive, F_X3_needBytes, F_X4_isRefused, F_X4_isRefusedNode, F_X4_isRefusedHandle, F_X4_isRefusedAt, F_X4_isRefusedUser, F_X4_isRefusedRow, F_X4_isRefusedBoth, F_X4_isName, xt_n, xt_s, xb1_s, xb2_s, xl_e, t3_pow, f3_pow, t3_node0, f3_node0, t3_open, f4_off, f4_ref, f4_node0, f4_open, mr12, t3_node ha1, f4_node ha1, t3_inx ha2, f4_inx ha2, t3_in ha4, f3_in ha4, f4_in ha4]
          exact okI.t rfl rfl rfl rfl (by decide)
        · skip
          simp only [T_X3_share, F_X4_share, F_X4_share_25, F_X4_share_55, F_X4_share_61, T_X3_share_94, T_X3_needEntry, T_X3_needTwoEntries, T_X3_needLive, T_X3_needBytes, F_X3_needEntry, F_X3_needTwoEntries, F_X3_needLive, F_X3_needBytes, F_X4_isRefused, F_X4_isRefusedNode, F_X4_isRefusedHandle, F_X4_isRefusedAt, F_X4_isRefusedUser, F_X4_isRefusedRow, F_X4_isRefusedBoth, F_X4_isName, xt_n, xt_s, xb1_s, xb2_s, xl_e, t3_pow, f3_pow, t3_node0, f3_node0, t3_open, f4_off, f4_ref, f4_node0, f4_open, mr12, t3_node ha1, f4_node ha1, t3_inx ha2, f4_inx ha2, t3_inx ha4, f4_inx ha4]
          exact okI.t rfl rfl rfl rfl (by decide)
      · skip
        by_cases ha4 : (0 : Int) ≤ a4 ∧ a4 ≤ 19
        · skip
          simp only [T_X3_share, F_X4_share, F_X4_share_25, F_X4_share_55, F_X4_share_61, T_X3_share_94, T_X3_needEntry, T_X3_needTwoEntries, T_X3_needLive, T_X3_needBytes, F_X3_needEntry, F_X3_needTwoEntries, F_X3_needLive, F_X3_needBytes, F_X4_isRefused, F_X4_isRefusedNode, F_X4_isRefusedHandle, F_X4_isRefusedAt, F_X4_isRefusedUser, F_X4_isRefusedRow, F_X4_isRefusedBoth, F_X4_isName, xt_n, xt_s, xb1_s, xb2_s, xl_e, t3_pow, f3_pow, t3_node0, f3_node0, t3_open, f4_off, f4_ref, f4_node0, f4_open, mr12, t3_node ha1, f4_node ha1, t3_inx ha2, f4_inx ha2, t3_node ha3, f4_node ha3, t3_in ha4, f3_in ha4, f4_in ha4]
          exact okI.t rfl rfl rfl rfl (by decide)
        · skip
          simp only [T_X3_share, F_X4_share, F_X4_share_25, F_X4_share_55, F_X4_share_61, T_X3_share_94, T_X3_needEntry, T_X3_needTwoEntries, T_X3_needLive, T_X3_needBytes, F_X3_needEntry, F_X3_needTwoEntries, F_X3_needLive, F_X3_needBytes, F_X4_isRefused, F_X4_isRefusedNode, F_X4_isRefusedHandle, F_X4_isRefusedAt, F_X4_isRefusedUser, F_X4_isRefusedRow, F_X4_isRefusedBoth, F_X4_isName, xt_n, xt_s, xb1_s, xb2_s, xl_e, t3_pow, f3_pow, t3_node0, f3_node0, t3_open, f4_off, f4_ref, f4_node0, f4_open, mr12, t3_node ha1, f4_node ha1, t3_inx ha2, f4_inx ha2, t3_node ha3, f4_node ha3, t3_inx ha4, f4_inx ha4]
          exact okI.t rfl rfl rfl rfl (by decide)
set_option maxHeartbeats 2000000 in
set_option maxRecDepth 20000 in
theorem g_open : (ckI (F_X3_open M0 0) (F_X4_open MR 0)) = true := by decide +kernel
set_option maxHeartbeats 2000000 in
set_option maxRecDepth 20000 in
theorem p_open (a1 : Int) : okI (F_X3_open M0 a1) (T_X3_open M0 a1) (F_X4_open MR a1) (fun E => if E = 1 then 1 else if E = 2 then 2 else 0) := by
  by_cases ha1 : a1 = 0
  · subst ha1
    exact ckI.ok g_open
  · skip
    simp only [T_X3_open, F_X4_open, T_X3_needEntry, T_X3_needTwoEntries, T_X3_needLive, T_X3_needBytes, F_X3_needEntry, F_X3_needTwoEntries, F_X3_needLive, F_X3_needBytes, F_X4_isRefused, F_X4_isRefusedNode, F_X4_isRefusedHandle, F_X4_isRefusedAt, F_X4_isRefusedUser, F_X4_isRefusedRow, F_X4_isRefusedBoth, F_X4_isName, xt_n, xt_s, xb1_s, xb2_s, xl_e, t3_pow, f3_pow, t3_node0, f3_node0, t3_open, f4_off, f4_ref, f4_node0, f4_open, mr12, t3_node ha1, f4_node ha1]
    exact okI.t rfl rfl rfl rfl (by decide)
set_option maxHeartbeats 2000000 in
set_option maxRecDepth 20000 in
theorem p_close (a1 : Int) : okI (F_X3_close M0 a1) (T_X3_close M0 a1) (F_X4_close MR a1) (fun E => if E = 1 then 1 else if E = 2 then 2 else 0) := by
  simp only [T_X3_close, F_X4_close, T_X3_needEntry, T_X3_needTwoEntries, T_X3_needLive, T_X3_needBytes, F_X3_needEntry, F_X3_needTwoEntries, F_X3_needLive, F_X3_needBytes, F_X4_isRefused, F_X4_isRefusedNode, F_X4_isRefusedHandle, F_X4_isRefusedAt, F_X4_isRefusedUser, F_X4_isRefusedRow, F_X4_isRefusedBoth, F_X4_isName, xt_n, xt_s, xb1_s, xb2_s, xl_e, t3_pow, f3_pow, t3_node0, f3_node0, t3_open, f4_off, f4_ref, f4_node0, f4_open, mr12]
  exact okI.t rfl rfl rfl rfl (by decide)
set_option maxHeartbeats 2000000 in
set_option maxRecDepth 20000 in
theorem p_seek (a1 : Int) (a2 : Int) : okI (F_X3_seek M0 a1 a2) (T_X3_seek M0 a1 a2) (F_X4_seek MR a1 a2) (fun E => if E = 1 then 1 else if E = 2 then 2 else if E = 3 then 3 else 0) := by
  simp only [T_X3_seek, F_X4_seek, T_X3_needEntry, T_X3_needTwoEntries, T_X3_needLive, T_X3_needBytes, F_X3_needEntry, F_X3_needTwoEntries, F_X3_needLive, F_X3_needBytes, F_X4_isRefused, F_X4_isRefusedNode, F_X4_isRefusedHandle, F_X4_isRefusedAt, F_X4_isRefusedUser, F_X4_isRefusedRow, F_X4_isRefusedBoth, F_X4_isName, xt_n, xt_s, xb1_s, xb2_s, xl_e, t3_pow, f3_pow, t3_node0, f3_node0, t3_open, f4_off, f4_ref, f4_node0, f4_open, mr12]
  exact okI.t rfl rfl rfl rfl (by decide)
set_option maxHeartbeats 2000000 in
set_option maxRecDepth 20000 in
theorem p_read (a1 : Int) (a2 : Int) : okI (F_X3_read M0 a1 a2) (T_X3_read M0 a1 a2) (F_X4_read MR a1 a2) (fun E => if E = 1 then 1 else if E = 2 then 2 else if E = 3 then 3 else 0) := by
  simp only [T_X3_read, F_X4_read, T_X3_needEntry, T_X3_needTwoEntries, T_X3_needLive, T_X3_needBytes, F_X3_needEntry, F_X3_needTwoEntries, F_X3_needLive, F_X3_needBytes, F_X4_isRefused, F_X4_isRefusedNode, F_X4_isRefusedHandle, F_X4_isRefusedAt, F_X4_isRefusedUser, F_X4_isRefusedRow, F_X4_isRefusedBoth, F_X4_isName, xt_n, xt_s, xb1_s, xb2_s, xl_e, t3_pow, f3_pow, t3_node0, f3_node0, t3_open, f4_off, f4_ref, f4_node0, f4_open, mr12]
  exact okI.t rfl rfl rfl rfl (by decide)
set_option maxHeartbeats 2000000 in
set_option maxRecDepth 20000 in
theorem p_lock (a1 : Int) (a2 : Int) (a3 : Int) (a4 : Int) : okI (F_X3_lock M0 a1 a2 a3 a4) (T_X3_lock M0 a1 a2 a3 a4) (F_X4_lock MR a1 a2 a3 a4) (fun E => if E = 1 then 1 else if E = 2 then 2 else if E = 3 then 3 else 0) := by
  simp only [T_X3_lock, F_X4_lock, T_X3_needEntry, T_X3_needTwoEntries, T_X3_needLive, T_X3_needBytes, F_X3_needEntry, F_X3_needTwoEntries, F_X3_needLive, F_X3_needBytes, F_X4_isRefused, F_X4_isRefusedNode, F_X4_isRefusedHandle, F_X4_isRefusedAt, F_X4_isRefusedUser, F_X4_isRefusedRow, F_X4_isRefusedBoth, F_X4_isName, xt_n, xt_s, xb1_s, xb2_s, xl_e, t3_pow, f3_pow, t3_node0, f3_node0, t3_open, f4_off, f4_ref, f4_node0, f4_open, mr12]
  exact okI.t rfl rfl rfl rfl (by decide)
set_option maxHeartbeats 2000000 in
set_option maxRecDepth 20000 in
theorem p_unlock (a1 : Int) (a2 : Int) (a3 : Int) : okI (F_X3_unlock M0 a1 a2 a3) (T_X3_unlock M0 a1 a2 a3) (F_X4_unlock MR a1 a2 a3) (fun E => if E = 1 then 1 else if E = 2 then 2 else if E = 3 then 3 else 0) := by
  simp only [T_X3_unlock, F_X4_unlock, T_X3_needEntry, T_X3_needTwoEntries, T_X3_needLive, T_X3_needBytes, F_X3_needEntry, F_X3_needTwoEntries, F_X3_needLive, F_X3_needBytes, F_X4_isRefused, F_X4_isRefusedNode, F_X4_isRefusedHandle, F_X4_isRefusedAt, F_X4_isRefusedUser, F_X4_isRefusedRow, F_X4_isRefusedBoth, F_X4_isName, xt_n, xt_s, xb1_s, xb2_s, xl_e, t3_pow, f3_pow, t3_node0, f3_node0, t3_open, f4_off, f4_ref, f4_node0, f4_open, mr12]
  exact okI.t rfl rfl rfl rfl (by decide)
set_option maxHeartbeats 2000000 in
set_option maxRecDepth 20000 in
theorem p_whoHinders (a1 : Int) (a2 : Int) (a3 : Int) (a4 : Int) : okP (F_X3_whoHinders M0 a1 a2 a3 a4) (T_X3_whoHinders M0 a1 a2 a3 a4) (F_X4_whoHinders MR a1 a2 a3 a4) (fun E => if E = 1 then 1 else if E = 2 then 2 else if E = 3 then 3 else 0) := by
  simp only [T_X3_whoHinders, F_X4_whoHinders, T_X3_needEntry, T_X3_needTwoEntries, T_X3_needLive, T_X3_needBytes, F_X3_needEntry, F_X3_needTwoEntries, F_X3_needLive, F_X3_needBytes, F_X4_isRefused, F_X4_isRefusedNode, F_X4_isRefusedHandle, F_X4_isRefusedAt, F_X4_isRefusedUser, F_X4_isRefusedRow, F_X4_isRefusedBoth, F_X4_isName, xt_n, xt_s, xb1_s, xb2_s, xl_e, t3_pow, f3_pow, t3_node0, f3_node0, t3_open, f4_off, f4_ref, f4_node0, f4_open, mr12]
  exact okP.t rfl rfl rfl rfl (by decide)
set_option maxHeartbeats 2000000 in
set_option maxRecDepth 20000 in
theorem p_lockRows (a1 : Int) : okP (F_X3_lockRows M0 a1) (T_X3_lockRows M0 a1) (F_X4_lockRows MR a1) (fun E => if E = 1 then 1 else if E = 2 then 2 else 0) := by
  simp only [T_X3_lockRows, F_X4_lockRows, T_X3_needEntry, T_X3_needTwoEntries, T_X3_needLive, T_X3_needBytes, F_X3_needEntry, F_X3_needTwoEntries, F_X3_needLive, F_X3_needBytes, F_X4_isRefused, F_X4_isRefusedNode, F_X4_isRefusedHandle, F_X4_isRefusedAt, F_X4_isRefusedUser, F_X4_isRefusedRow, F_X4_isRefusedBoth, F_X4_isName, xt_n, xt_s, xb1_s, xb2_s, xl_e, t3_pow, f3_pow, t3_node0, f3_node0, t3_open, f4_off, f4_ref, f4_node0, f4_open, mr12]
  exact okP.t rfl rfl rfl rfl (by decide)
set_option maxHeartbeats 2000000 in
set_option maxRecDepth 20000 in
theorem g_lockAt : ((List.range 320).all fun ia2 => ckP (F_X3_lockAt M0 0 (0 + (ia2 : Int))) (F_X4_lockAt MR 0 (0 + (ia2 : Int)))) = true := by decide +kernel
set_option maxHeartbeats 2000000 in
set_option maxRecDepth 20000 in
theorem p_lockAt (a1 : Int) (a2 : Int) : okP (F_X3_lockAt M0 a1 a2) (T_X3_lockAt M0 a1 a2) (F_X4_lockAt MR a1 a2) (fun E => if E = 1 then 1 else if E = 2 then 2 else if E = 3 then 3 else 0) := by
  by_cases ha1 : a1 = 0
  · subst ha1
    by_cases ha2 : (0 : Int) ≤ a2 ∧ a2 ≤ 319
    · skip
      obtain ⟨ia2, hia2, rfl⟩ := in_nat (n := 320) ha2 (by decide)
      exact ckP.ok (List.all_eq_true.mp g_lockAt ia2 (List.mem_range.mpr hia2))
    · skip
      simp only [T_X3_lockAt, F_X4_lockAt, T_X3_needEntry, T_X3_needTwoEntries, T_X3_needLive, T_X3_needBytes, F_X3_needEntry, F_X3_needTwoEntries, F_X3_needLive, F_X3_needBytes, F_X4_isRefused, F_X4_isRefusedNode, F_X4_isRefusedHandle, F_X4_isRefusedAt, F_X4_isRefusedUser, F_X4_isRefusedRow, F_X4_isRefusedBoth, F_X4_isName, xt_n, xt_s, xb1_s, xb2_s, xl_e, t3_pow, f3_pow, t3_node0, f3_node0, t3_open, f4_off, f4_ref, f4_node0, f4_open, mr12, t3_inx ha2, f4_inx ha2]
      exact okP.t rfl rfl rfl rfl (by decide)
  · skip
    by_cases ha2 : (0 : Int) ≤ a2 ∧ a2 ≤ 319
    · skip
      simp only [T_X3_lockAt, F_X4_lockAt, T_X3_needEntry, T_X3_needTwoEntries, T_X3_needLive, T_X3_needBytes, F_X3_needEntry, F_X3_needTwoEntries, F_X3_needLive, F_X3_needBytes, F_X4_isRefused, F_X4_isRefusedNode, F_X4_isRefusedHandle, F_X4_isRefusedAt, F_X4_isRefusedUser, F_X4_isRefusedRow, F_X4_isRefusedBoth, F_X4_isName, xt_n, xt_s, xb1_s, xb2_s, xl_e, t3_pow, f3_pow, t3_node0, f3_node0, t3_open, f4_off, f4_ref, f4_node0, f4_open, mr12, t3_node ha1, f4_node ha1, t3_in ha2, f3_in ha2, f4_in ha2]
      exact okP.t rfl rfl rfl rfl (by decide)
    · skip
      simp only [T_X3_lockAt, F_X4_lockAt, T_X3_needEntry, T_X3_needTwoEntries, T_X3_needLive, T_X3_needBytes, F_X3_needEntry, F_X3_needTwoEntries, F_X3_needLive, F_X3_needBytes, F_X4_isRefused, F_X4_isRefusedNode, F_X4_isRefusedHandle, F_X4_isRefusedAt, F_X4_isRefusedUser, F_X4_isRefusedRow, F_X4_isRefusedBoth, F_X4_isName, xt_n, xt_s, xb1_s, xb2_s, xl_e, t3_pow, f3_pow, t3_node0, f3_node0, t3_open, f4_off, f4_ref, f4_node0, f4_open, mr12, t3_node ha1, f4_node ha1, t3_inx ha2, f4_inx ha2]
      exact okP.t rfl rfl rfl rfl (by decide)
set_option maxHeartbeats 2000000 in
set_option maxRecDepth 20000 in
theorem p_nodeOf (a1 : Int) : okP (F_X3_nodeOf M0 a1) (T_X3_nodeOf M0 a1) (F_X4_nodeOf MR a1) (fun E => if E = 1 then 1 else if E = 2 then 2 else 0) := by
  simp only [T_X3_nodeOf, F_X4_nodeOf, T_X3_needEntry, T_X3_needTwoEntries, T_X3_needLive, T_X3_needBytes, F_X3_needEntry, F_X3_needTwoEntries, F_X3_needLive, F_X3_needBytes, F_X4_isRefused, F_X4_isRefusedNode, F_X4_isRefusedHandle, F_X4_isRefusedAt, F_X4_isRefusedUser, F_X4_isRefusedRow, F_X4_isRefusedBoth, F_X4_isName, xt_n, xt_s, xb1_s, xb2_s, xl_e, t3_pow, f3_pow, t3_node0, f3_node0, t3_open, f4_off, f4_ref, f4_node0, f4_open, mr12]
  exact okP.t rfl rfl rfl rfl (by decide)
set_option maxHeartbeats 2000000 in
set_option maxRecDepth 20000 in
theorem p_positionOf (a1 : Int) : okP (F_X3_positionOf M0 a1) (T_X3_positionOf M0 a1) (F_X4_positionOf MR a1) (fun E => if E = 1 then 1 else if E = 2 then 2 else 0) := by
  simp only [T_X3_positionOf, F_X4_positionOf, T_X3_needEntry, T_X3_needTwoEntries, T_X3_needLive, T_X3_needBytes, F_X3_needEntry, F_X3_needTwoEntries, F_X3_needLive, F_X3_needBytes, F_X4_isRefused, F_X4_isRefusedNode, F_X4_isRefusedHandle, F_X4_isRefusedAt, F_X4_isRefusedUser, F_X4_isRefusedRow, F_X4_isRefusedBoth, F_X4_isName, xt_n, xt_s, xb1_s, xb2_s, xl_e, t3_pow, f3_pow, t3_node0, f3_node0, t3_open, f4_off, f4_ref, f4_node0, f4_open, mr12]
  exact okP.t rfl rfl rfl rfl (by decide)
set_option maxHeartbeats 2000000 in
set_option maxRecDepth 20000 in
theorem g_handles : (ckP (F_X3_handles M0) (F_X4_handles MR)) = true := by decide +kernel
set_option maxHeartbeats 2000000 in
set_option maxRecDepth 20000 in
theorem p_handles  : okP (F_X3_handles M0) (T_X3_handles M0) (F_X4_handles MR) (fun E => if E = 1 then 1 else 0) := by
  exact ckP.ok g_handles
set_option maxHeartbeats 2000000 in
set_option maxRecDepth 20000 in
theorem g_sync : (ckI (F_X3_sync M0) (F_X4_sync MR)) = true := by decide +kernel
set_option maxHeartbeats 2000000 in
set_option maxRecDepth 20000 in
theorem p_sync  : okI (F_X3_sync M0) (T_X3_sync M0) (F_X4_sync MR) (fun E => if E = 1 then 1 else 0) := by
  exact ckI.ok g_sync
set_option maxHeartbeats 2000000 in
set_option maxRecDepth 20000 in
theorem g_flush : (ckI (F_X3_flush M0) (F_X4_flush MR)) = true := by decide +kernel
set_option maxHeartbeats 2000000 in
set_option maxRecDepth 20000 in
theorem p_flush  : okI (F_X3_flush M0) (T_X3_flush M0) (F_X4_flush MR) (fun E => if E = 1 then 1 else 0) := by
  exact ckI.ok g_flush
set_option maxHeartbeats 2000000 in
set_option maxRecDepth 20000 in
theorem p_mount  : okI (F_X3_mount M0) (T_X3_mount M0) (F_X4_mount MR) (fun E => if E = 1 then 1 else 0) := by
  simp only [T_X3_mount, F_X4_mount, F_X4_mount_13, T_X3_needEntry, T_X3_needTwoEntries, T_X3_needLive, T_X3_needBytes, F_X3_needEntry, F_X3_needTwoEntries, F_X3_needLive, F_X3_needBytes, F_X4_isRefused, F_X4_isRefusedNode, F_X4_isRefusedHandle, F_X4_isRefusedAt, F_X4_isRefusedUser, F_X4_isRefusedRow, F_X4_isRefusedBoth, F_X4_isName, xt_n, xt_s, xb1_s, xb2_s, xl_e, t3_pow, f3_pow, t3_node0, f3_node0, t3_open, f4_off, f4_ref, f4_node0, f4_open, mr12]
  exact okI.t rfl rfl rfl rfl (by decide)
set_option maxHeartbeats 2000000 in
set_option maxRecDepth 20000 in
theorem g_waiting : (ckP (F_X3_waiting M0) (F_X4_waiting MR)) = true := by decide +kernel
set_option maxHeartbeats 2000000 in
set_option maxRecDepth 20000 in
theorem p_waiting  : okP (F_X3_waiting M0) (T_X3_waiting M0) (F_X4_waiting MR) (fun E => if E = 1 then 1 else 0) := by
  exact ckP.ok g_waiting
