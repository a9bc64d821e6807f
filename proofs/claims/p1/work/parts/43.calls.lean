set_option maxHeartbeats 1000000 in
set_option maxRecDepth 20000 in
theorem p_cloneFile (a1 : Int) (a2 : Int) (a3 : Int) : okI (F_X3_cloneFile M0 a1 a2 a3) (T_X3_cloneFile M0 a1 a2 a3) (F_X4_cloneFile MR a1 a2 a3) (fun E => if E = 1 then 1 else if E = 2 then 2 else if E = 3 then 3 else 0) := by
  by_cases ha1 : a1 = 0
  · subst ha1
    by_cases ha2 : (1 : Int) ≤ a2 ∧ a2 ≤ 99
    · skip
      by_cases ha3 : a3 = 0
      · subst ha3
        simp only [F_X3_cloneFile, F_X4_cloneFile, T_X3_needEntry, T_X3_needTwoEntries, T_X3_needLive, T_X3_needBytes, F_X3_needEntry, F_X3_needTwoEntries, F_X3_needLive, F_X3_needBytes, F_X4_isRefused, F_X4_isRefusedNode, F_X4_isRefusedHandle, F_X4_isRefusedAt, F_X4_isRefusedUser, F_X4_isRefusedRow, F_X4_isRefusedBoth, F_X4_isName, xt_n, xt_s, xb1_s, xb2_s, xl_e, t3_pow, f3_pow, t3_node0, f3_node0, t3_open, f4_off, f4_ref, f4_node0, f4_open, mr12, t3_in ha2, f3_in ha2, f4_in ha2]
        exact okI.n rfl rfl rfl
      · skip
        simp only [T_X3_cloneFile, F_X4_cloneFile, T_X3_needEntry, T_X3_needTwoEntries, T_X3_needLive, T_X3_needBytes, F_X3_needEntry, F_X3_needTwoEntries, F_X3_needLive, F_X3_needBytes, F_X4_isRefused, F_X4_isRefusedNode, F_X4_isRefusedHandle, F_X4_isRefusedAt, F_X4_isRefusedUser, F_X4_isRefusedRow, F_X4_isRefusedBoth, F_X4_isName, xt_n, xt_s, xb1_s, xb2_s, xl_e, t3_pow, f3_pow, t3_node0, f3_node0, t3_open, f4_off, f4_ref, f4_node0, f4_open, mr12, t3_in ha2, f3_in ha2, f4_in ha2, t3_node ha3, f4_node ha3]
        exact okI.t rfl rfl rfl rfl
    · skip
      by_cases ha3 : a3 = 0
      · subst ha3
        simp only [T_X3_cloneFile, F_X4_cloneFile, T_X3_needEntry, T_X3_needTwoEntries, T_X3_needLive, T_X3_needBytes, F_X3_needEntry, F_X3_needTwoEntries, F_X3_needLive, F_X3_needBytes, F_X4_isRefused, F_X4_isRefusedNode, F_X4_isRefusedHandle, F_X4_isRefusedAt, F_X4_isRefusedUser, F_X4_isRefusedRow, F_X4_isRefusedBoth, F_X4_isName, xt_n, xt_s, xb1_s, xb2_s, xl_e, t3_pow, f3_pow, t3_node0, f3_node0, t3_open, f4_off, f4_ref, f4_node0, f4_open, mr12, t3_inx ha2, f4_inx ha2]
        exact okI.t rfl rfl rfl rfl
      · skip
        simp only [T_X3_cloneFile, F_X4_cloneFile, T_X3_needEntry, T_X3_needTwoEntries, T_X3_needLive, T_X3_needBytes, F_X3_needEntry, F_X3_needTwoEntries, F_X3_needLive, F_X3_needBytes, F_X4_isRefused, F_X4_isRefusedNode, F_X4_isRefusedHandle, F_X4_isRefusedAt, F_X4_isRefusedUser, F_X4_isRefusedRow, F_X4_isRefusedBoth, F_X4_isName, xt_n, xt_s, xb1_s, xb2_s, xl_e, t3_pow, f3_pow, t3_node0, f3_node0, t3_open, f4_off, f4_ref, f4_node0, f4_open, mr12, t3_inx ha2, f4_inx ha2, t3_node ha3, f4_node ha3]
        exact okI.t rfl rfl rfl rfl
  · skip
    by_cases ha2 : (1 : Int) ≤ a2 ∧ a2 ≤ 99
    · skip
      by_cases ha3 : a3 = 0
      · subst ha3
        simp only [T_X3_cloneFile, F_X4_cloneFile, T_X3_needEntry, T_X3_needTwoEntries, T_X3_needLive, T_X3_needBytes, F_X3_needEntry, F_X3_needTwoEntries, F_X3_needLive, F_X3_needBytes, F_X4_isRefused, F_X4_isRefusedNode, F_X4_isRefusedHandle, F_X4_isRefusedAt, F_X4_isRefusedUser, F_X4_isRefusedRow, F_X4_isRefusedBoth, F_X4_isName, xt_n, xt_s, xb1_s, xb2_s, xl_e, t3_pow, f3_pow, t3_node0, f3_node0, t3_open, f4_off, f4_ref, f4_node0, f4_open, mr12, t3_node ha1, f4_node ha1, t3_in ha2, f3_in ha2, f4_in ha2]
        exact okI.t rfl rfl rfl rfl
      · skip
        simp only [T_X3_cloneFile, F_X4_cloneFile, T_X3_needEntry, T_X3_needTwoEntries, T_X3_needLive, T_X3_needBytes, F_X3_needEntry, F_X3_needTwoEntries, F_X3_needLive, F_X3_needBytes, F_X4_isRefused, F_X4_isRefusedNode, F_X4_isRefusedHandle, F_X4_isRefusedAt, F_X4_isRefusedUser, F_X4_isRefusedRow, F_X4_isRefusedBoth, F_X4_isName, xt_n, xt_s, xb1_s, xb2_s, xl_e, t3_pow, f3_pow, t3_node0, f3_node0, t3_open, f4_off, f4_ref, f4_node0, f4_open, mr12, t3_node ha1, f4_node ha1, t3_in ha2, f3_in ha2, f4_in ha2, t3_node ha3, f4_node ha3]
        exact okI.t rfl rfl rfl rfl
    · skip
      by_cases ha3 : a3 = 0
      · subst ha3
        simp only [T_X3_cloneFile, F_X4_cloneFile, T_X3_needEntry, T_X3_needTwoEntries, T_X3_needLive, T_X3_needBytes, F_X3_needEntry, F_X3_needTwoEntries, F_X3_needLive, F_X3_needBytes, F_X4_isRefused, F_X4_isRefusedNode, F_X4_isRefusedHandle, F_X4_isRefusedAt, F_X4_isRefusedUser, F_X4_isRefusedRow, F_X4_isRefusedBoth, F_X4_isName, xt_n, xt_s, xb1_s, xb2_s, xl_e, t3_pow, f3_pow, t3_node0, f3_node0, t3_open, f4_off, f4_ref, f4_node0, f4_open, mr12, t3_node ha1, f4_node ha1, t3_inx ha2, f4_inx ha2]
        exact okI.t rfl rfl rfl rfl
      · skip
        simp only [T_X3_cloneFile, F_X4_cloneFile, T_X3_needEntry, T_X3_needTwoEntries, T_X3_needLive, T_X3_needBytes, F_X3_needEntry, F_X3_needTwoEntries, F_X3_needLive, F_X3_needBytes, F_X4_isRefused, F_X4_isRefusedNode, F_X4_isRefusedHandle, F_X4_isRefusedAt, F_X4_isRefusedUser, F_X4_isRefusedRow, F_X4_isRefusedBoth, F_X4_isName, xt_n, xt_s, xb1_s, xb2_s, xl_e, t3_pow, f3_pow, t3_node0, f3_node0, t3_open, f4_off, f4_ref, f4_node0, f4_open, mr12, t3_node ha1, f4_node ha1, t3_inx ha2, f4_inx ha2, t3_node ha3, f4_node ha3]
        exact okI.t rfl rfl rfl rfl
set_option maxHeartbeats 1000000 in
set_option maxRecDepth 20000 in
theorem p_addName (a1 : Int) (a2 : Int) (a3 : Int) : okI (F_X3_addName M0 a1 a2 a3) (T_X3_addName M0 a1 a2 a3) (F_X4_addName MR a1 a2 a3) (fun E => if E = 1 then 1 else if E = 2 then 2 else if E = 3 then 3 else 0) := by
  by_cases ha1 : a1 = 0
  · subst ha1
    by_cases ha2 : (1 : Int) ≤ a2 ∧ a2 ≤ 99
    · skip
      by_cases ha3 : a3 = 0
      · subst ha3
        simp only [F_X3_addName, F_X4_addName, T_X3_needEntry, T_X3_needTwoEntries, T_X3_needLive, T_X3_needBytes, F_X3_needEntry, F_X3_needTwoEntries, F_X3_needLive, F_X3_needBytes, F_X4_isRefused, F_X4_isRefusedNode, F_X4_isRefusedHandle, F_X4_isRefusedAt, F_X4_isRefusedUser, F_X4_isRefusedRow, F_X4_isRefusedBoth, F_X4_isName, xt_n, xt_s, xb1_s, xb2_s, xl_e, t3_pow, f3_pow, t3_node0, f3_node0, t3_open, f4_off, f4_ref, f4_node0, f4_open, mr12, t3_in ha2, f3_in ha2, f4_in ha2]
        exact okI.n rfl rfl rfl
      · skip
        simp only [T_X3_addName, F_X4_addName, T_X3_needEntry, T_X3_needTwoEntries, T_X3_needLive, T_X3_needBytes, F_X3_needEntry, F_X3_needTwoEntries, F_X3_needLive, F_X3_needBytes, F_X4_isRefused, F_X4_isRefusedNode, F_X4_isRefusedHandle, F_X4_isRefusedAt, F_X4_isRefusedUser, F_X4_isRefusedRow, F_X4_isRefusedBoth, F_X4_isName, xt_n, xt_s, xb1_s, xb2_s, xl_e, t3_pow, f3_pow, t3_node0, f3_node0, t3_open, f4_off, f4_ref, f4_node0, f4_open, mr12, t3_in ha2, f3_in ha2, f4_in ha2, t3_node ha3, f4_node ha3]
        exact okI.t rfl rfl rfl rfl
    · skip
      by_cases ha3 : a3 = 0
      · subst ha3
        simp only [T_X3_addName, F_X4_addName, T_X3_needEntry, T_X3_needTwoEntries, T_X3_needLive, T_X3_needBytes, F_X3_needEntry, F_X3_needTwoEntries, F_X3_needLive, F_X3_needBytes, F_X4_isRefused, F_X4_isRefusedNode, F_X4_isRefusedHandle, F_X4_isRefusedAt, F_X4_isRefusedUser, F_X4_isRefusedRow, F_X4_isRefusedBoth, F_X4_isName, xt_n, xt_s, xb1_s, xb2_s, xl_e, t3_pow, f3_pow, t3_node0, f3_node0, t3_open, f4_off, f4_ref, f4_node0, f4_open, mr12, t3_inx ha2, f4_inx ha2]
        exact okI.t rfl rfl rfl rfl
      · skip
        simp only [T_X3_addName, F_X4_addName, T_X3_needEntry, T_X3_needTwoEntries, T_X3_needLive, T_X3_needBytes, F_X3_needEntry, F_X3_needTwoEntries, F_X3_needLive, F_X3_needBytes, F_X4_isRefused, F_X4_isRefusedNode, F_X4_isRefusedHandle, F_X4_isRefusedAt, F_X4_isRefusedUser, F_X4_isRefusedRow, F_X4_isRefusedBoth, F_X4_isName, xt_n, xt_s, xb1_s, xb2_s, xl_e, t3_pow, f3_pow, t3_node0, f3_node0, t3_open, f4_off, f4_ref, f4_node0, f4_open, mr12, t3_inx ha2, f4_inx ha2, t3_node ha3, f4_node ha3]
        exact okI.t rfl rfl rfl rfl
  · skip
    by_cases ha2 : (1 : Int) ≤ a2 ∧ a2 ≤ 99
    · skip
      by_cases ha3 : a3 = 0
      · subst ha3
        simp only [T_X3_addName, F_X4_addName, T_X3_needEntry, T_X3_needTwoEntries, T_X3_needLive, T_X3_needBytes, F_X3_needEntry, F_X3_needTwoEntries, F_X3_needLive, F_X3_needBytes, F_X4_isRefused, F_X4_isRefusedNode, F_X4_isRefusedHandle, F_X4_isRefusedAt, F_X4_isRefusedUser, F_X4_isRefusedRow, F_X4_isRefusedBoth, F_X4_isName, xt_n, xt_s, xb1_s, xb2_s, xl_e, t3_pow, f3_pow, t3_node0, f3_node0, t3_open, f4_off, f4_ref, f4_node0, f4_open, mr12, t3_node ha1, f4_node ha1, t3_in ha2, f3_in ha2, f4_in ha2]
        exact okI.t rfl rfl rfl rfl
      · skip
        simp only [T_X3_addName, F_X4_addName, T_X3_needEntry, T_X3_needTwoEntries, T_X3_needLive, T_X3_needBytes, F_X3_needEntry, F_X3_needTwoEntries, F_X3_needLive, F_X3_needBytes, F_X4_isRefused, F_X4_isRefusedNode, F_X4_isRefusedHandle, F_X4_isRefusedAt, F_X4_isRefusedUser, F_X4_isRefusedRow, F_X4_isRefusedBoth, F_X4_isName, xt_n, xt_s, xb1_s, xb2_s, xl_e, t3_pow, f3_pow, t3_node0, f3_node0, t3_open, f4_off, f4_ref, f4_node0, f4_open, mr12, t3_node ha1, f4_node ha1, t3_in ha2, f3_in ha2, f4_in ha2, t3_node ha3, f4_node ha3]
        exact okI.t rfl rfl rfl rfl
    · skip
      by_cases ha3 : a3 = 0
      · subst ha3
        simp only [T_X3_addName, F_X4_addName, T_X3_needEntry, T_X3_needTwoEntries, T_X3_needLive, T_X3_needBytes, F_X3_needEntry, F_X3_needTwoEntries, F_X3_needLive, F_X3_needBytes, F_X4_isRefused, F_X4_isRefusedNode, F_X4_isRefusedHandle, F_X4_isRefusedAt, F_X4_isRefusedUser, F_X4_isRefusedRow, F_X4_isRefusedBoth, F_X4_isName, xt_n, xt_s, xb1_s, xb2_s, xl_e, t3_pow, f3_pow, t3_node0, f3_node0, t3_open, f4_off, f4_ref, f4_node0, f4_open, mr12, t3_node ha1, f4_node ha1, t3_inx ha2, f4_inx ha2]
        exact okI.t rfl rfl rfl rfl
      · skip
        simp only [T_X3_addName, F_X4_addName, T_X3_needEntry, T_X3_needTwoEntries, T_X3_needLive, T_X3_needBytes, F_X3_needEntry, F_X3_needTwoEntries, F_X3_needLive, F_X3_needBytes, F_X4_isRefused, F_X4_isRefusedNode, F_X4_isRefusedHandle, F_X4_isRefusedAt, F_X4_isRefusedUser, F_X4_isRefusedRow, F_X4_isRefusedBoth, F_X4_isName, xt_n, xt_s, xb1_s, xb2_s, xl_e, t3_pow, f3_pow, t3_node0, f3_node0, t3_open, f4_off, f4_ref, f4_node0, f4_open, mr12, t3_node ha1, f4_node ha1, t3_inx ha2, f4_inx ha2, t3_node ha3, f4_node ha3]
        exact okI.t rfl rfl rfl rfl
set_option maxHeartbeats 1000000 in
set_option maxRecDepth 20000 in
theorem p_unlink (a1 : Int) (a2 : Int) : okI (F_X3_unlink M0 a1 a2) (T_X3_unlink M0 a1 a2) (F_X4_unlink MR a1 a2) (fun E => if E = 1 then 1 else if E = 2 then 2 else if E = 3 then 3 else 0) := by
  by_cases ha1 : a1 = 0
  · subst ha1
    by_cases ha2 : (1 : Int) ≤ a2 ∧ a2 ≤ 99
    · skip
      simp only [F_X3_unlink, F_X4_unlink, T_X3_needEntry, T_X3_needTwoEntries, T_X3_needLive, T_X3_needBytes, F_X3_needEntry, F_X3_needTwoEntries, F_X3_needLive, F_X3_needBytes, F_X4_isRefused, F_X4_isRefusedNode, F_X4_isRefusedHandle, F_X4_isRefusedAt, F_X4_isRefusedUser, F_X4_isRefusedRow, F_X4_isRefusedBoth, F_X4_isName, xt_n, xt_s, xb1_s, xb2_s, xl_e, t3_pow, f3_pow, t3_node0, f3_node0, t3_open, f4_off, f4_ref, f4_node0, f4_open, mr12, t3_in ha2, f3_in ha2, f4_in ha2]
      exact okI.n rfl rfl rfl
    · skip
      simp only [T_X3_unlink, F_X4_unlink, T_X3_needEntry, T_X3_needTwoEntries, T_X3_needLive, T_X3_needBytes, F_X3_needEntry, F_X3_needTwoEntries, F_X3_needLive, F_X3_needBytes, F_X4_isRefused, F_X4_isRefusedNode, F_X4_isRefusedHandle, F_X4_isRefusedAt, F_X4_isRefusedUser, F_X4_isRefusedRow, F_X4_isRefusedBoth, F_X4_isName, xt_n, xt_s, xb1_s, xb2_s, xl_e, t3_pow, f3_pow, t3_node0, f3_node0, t3_open, f4_off, f4_ref, f4_node0, f4_open, mr12, t3_inx ha2, f4_inx ha2]
      exact okI.t rfl rfl rfl rfl
  · skip
    by_cases ha2 : (1 : Int) ≤ a2 ∧ a2 ≤ 99
    · skip
      simp only [T_X3_unlink, F_X4_unlink, T_X3_needEntry, T_X3_needTwoEntries, T_X3_needLive, T_X3_needBytes, F_X3_needEntry, F_X3_needTwoEntries, F_X3_needLive, F_X3_needBytes, F_X4_isRefused, F_X4_isRefusedNode, F_X4_isRefusedHandle, F_X4_isRefusedAt, F_X4_isRefusedUser, F_X4_isRefusedRow, F_X4_isRefusedBoth, F_X4_isName, xt_n, xt_s, xb1_s, xb2_s, xl_e, t3_pow, f3_pow, t3_node0, f3_node0, t3_open, f4_off, f4_ref, f4_node0, f4_open, mr12, t3_node ha1, f4_node ha1, t3_in ha2, f3_in ha2, f4_in ha2]
      exact okI.t rfl rfl rfl rfl
    · skip
      simp only [T_X3_unlink, F_X4_unlink, T_X3_needEntry, T_X3_needTwoEntries, T_X3_needLive, T_X3_needBytes, F_X3_needEntry, F_X3_needTwoEntries, F_X3_needLive, F_X3_needBytes, F_X4_isRefused, F_X4_isRefusedNode, F_X4_isRefusedHandle, F_X4_isRefusedAt, F_X4_isRefusedUser, F_X4_isRefusedRow, F_X4_isRefusedBoth, F_X4_isName, xt_n, xt_s, xb1_s, xb2_s, xl_e, t3_pow, f3_pow, t3_node0, f3_node0, t3_open, f4_off, f4_ref, f4_node0, f4_open, mr12, t3_node ha1, f4_node ha1, t3_inx ha2, f4_inx ha2]
      exact okI.t rfl rfl rfl rfl
set_option maxHeartbeats 1000000 in
set_option maxRecDepth 20000 in
theorem p_removeFolder (a1 : Int) (a2 : Int) : okI (F_X3_removeFolder M0 a1 a2) (T_X3_removeFolder M0 a1 a2) (F_X4_removeFolder MR a1 a2) (fun E => if E = 1 then 1 else if E = 2 then 2 else if E = 3 then 3 else 0) := by
  by_cases ha1 : a1 = 0
  · subst ha1
    by_cases ha2 : (1 : Int) ≤ a2 ∧ a2 ≤ 99
    · skip
      simp only [F_X3_removeFolder, F_X4_removeFolder, T_X3_needEntry, T_X3_needTwoEntries, T_X3_needLive, T_X3_needBytes, F_X3_needEntry, F_X3_needTwoEntries, F_X3_needLive, F_X3_needBytes, F_X4_isRefused, F_X4_isRefusedNode, F_X4_isRefusedHandle, F_X4_isRefusedAt, F_X4_isRefusedUser, F_X4_isRefusedRow, F_X4_isRefusedBoth, F_X4_isName, xt_n, xt_s, xb1_s, xb2_s, xl_e, t3_pow, f3_pow, t3_node0, f3_node0, t3_open, f4_off, f4_ref, f4_node0, f4_open, mr12, t3_in ha2, f3_in ha2, f4_in ha2]
      exact okI.n rfl rfl rfl
    · skip
      simp only [T_X3_removeFolder, F_X4_removeFolder, T_X3_needEntry, T_X3_needTwoEntries, T_X3_needLive, T_X3_needBytes, F_X3_needEntry, F_X3_needTwoEntries, F_X3_needLive, F_X3_needBytes, F_X4_isRefused, F_X4_isRefusedNode, F_X4_isRefusedHandle, F_X4_isRefusedAt, F_X4_isRefusedUser, F_X4_isRefusedRow, F_X4_isRefusedBoth, F_X4_isName, xt_n, xt_s, xb1_s, xb2_s, xl_e, t3_pow, f3_pow, t3_node0, f3_node0, t3_open, f4_off, f4_ref, f4_node0, f4_open, mr12, t3_inx ha2, f4_inx ha2]
      exact okI.t rfl rfl rfl rfl
  · skip
    by_cases ha2 : (1 : Int) ≤ a2 ∧ a2 ≤ 99
    · skip
      simp only [T_X3_removeFolder, F_X4_removeFolder, T_X3_needEntry, T_X3_needTwoEntries, T_X3_needLive, T_X3_needBytes, F_X3_needEntry, F_X3_needTwoEntries, F_X3_needLive, F_X3_needBytes, F_X4_isRefused, F_X4_isRefusedNode, F_X4_isRefusedHandle, F_X4_isRefusedAt, F_X4_isRefusedUser, F_X4_isRefusedRow, F_X4_isRefusedBoth, F_X4_isName, xt_n, xt_s, xb1_s, xb2_s, xl_e, t3_pow, f3_pow, t3_node0, f3_node0, t3_open, f4_off, f4_ref, f4_node0, f4_open, mr12, t3_node ha1, f4_node ha1, t3_in ha2, f3_in ha2, f4_in ha2]
      exact okI.t rfl rfl rfl rfl
    · skip
      simp only [T_X3_removeFolder, F_X4_removeFolder, T_X3_needEntry, T_X3_needTwoEntries, T_X3_needLive, T_X3_needBytes, F_X3_needEntry, F_X3_needTwoEntries, F_X3_needLive, F_X3_needBytes, F_X4_isRefused, F_X4_isRefusedNode, F_X4_isRefusedHandle, F_X4_isRefusedAt, F_X4_isRefusedUser, F_X4_isRefusedRow, F_X4_isRefusedBoth, F_X4_isName, xt_n, xt_s, xb1_s, xb2_s, xl_e, t3_pow, f3_pow, t3_node0, f3_node0, t3_open, f4_off, f4_ref, f4_node0, f4_open, mr12, t3_node ha1, f4_node ha1, t3_inx ha2, f4_inx ha2]
      exact okI.t rfl rfl rfl rfl
set_option maxHeartbeats 1000000 in
set_option maxRecDepth 20000 in
theorem p_rename (a1 : Int) (a2 : Int) (a3 : Int) (a4 : Int) : okI (F_X3_rename M0 a1 a2 a3 a4) (T_X3_rename M0 a1 a2 a3 a4) (F_X4_rename MR a1 a2 a3 a4) (fun E => if E = 1 then 1 else if E = 2 then 2 else if E = 3 then 3 else 0) := by
  by_cases ha1 : a1 = 0
  · subst ha1
    by_cases ha2 : (1 : Int) ≤ a2 ∧ a2 ≤ 99
    · skip
      by_cases ha3 : a3 = 0
      · subst ha3
        by_cases ha4 : (1 : Int) ≤ a4 ∧ a4 ≤ 99
        · skip
          simp only [F_X3_rename, F_X4_rename, F_X4_rename_139, T_X3_needEntry, T_X3_needTwoEntries, T_X3_needLive, T_X3_needBytes, F_X3_needEntry, F_X3_needTwoEntries, F_X3_needLive, F_X3_needBytes, F_X4_isRefused, F_X4_isRefusedNode, F_X4_isRefusedHandle, F_X4_isRefusedAt, F_X4_isRefusedUser, F_X4_isRefusedRow, F_X4_isRefusedBoth, F_X4_isName, xt_n, xt_s, xb1_s, xb2_s, xl_e, t3_pow, f3_pow, t3_node0, f3_node0, t3_open, f4_off, f4_ref, f4_node0, f4_open, mr12, t3_in ha2, f3_in ha2, f4_in ha2, t3_in ha4, f3_in ha4, f4_in ha4]
          exact okI.n rfl rfl rfl
        · skip
          simp only [T_X3_rename, F_X4_rename, F_X4_rename_139, T_X3_rename_87, T_X3_needEntry, T_X3_needTwoEntries, T_X3_needLive, T_X3_needBytes, F_X3_needEntry, F_X3_needTwoEntries, F_X3_needLive, F_X3_needBytes, F_X4_isRefused, F_X4_isRefusedNode, F_X4_isRefusedHandle, F_X4_isRefusedAt, F_X4_isRefusedUser, F_X4_isRefusedRow, F_X4_isRefusedBoth, F_X4_isName, xt_n, xt_s, xb1_s, xb2_s, xl_e, t3_pow, f3_pow, t3_node0, f3_node0, t3_open, f4_off, f4_ref, f4_node0, f4_open, mr12, t3_in ha2, f3_in ha2, f4_in ha2, t3_inx ha4, f4_inx ha4]
          exact okI.t rfl rfl rfl rfl
      · skip
        by_cases ha4 : (1 : Int) ≤ a4 ∧ a4 ≤ 99
        · skip
          simp only [T_X3_rename, F_X4_rename, F_X4_rename_139, T_X3_rename_87, T_X3_needEntry, T_X3_needTwoEntries, T_X3_needLive, T_X3_needBytes, F_X3_needEntry, F_X3_needTwoEntries, F_X3_needLive, F_X3_needBytes, F_X4_isRefused, F_X4_isRefusedNode, F_X4_isRefusedHandle, F_X4_isRefusedAt, F_X4_isRefusedUser, F_X4_isRefusedRow, F_X4_isRefusedBoth, F_X4_isName, xt_n, xt_s, xb1_s, xb2_s, xl_e, t3_pow, f3_pow, t3_node0, f3_node0, t3_open, f4_off, f4_ref, f4_node0, f4_open, mr12, t3_in ha2, f3_in ha2, f4_in ha2, t3_node ha3, f4_node ha3, t3_in ha4, f3_in ha4, f4_in ha4]
          exact okI.t rfl rfl rfl rfl
        · skip
          simp only [T_X3_rename, F_X4_rename, F_X4_rename_139, T_X3_rename_87, T_X3_needEntry, T_X3_needTwoEntries, T_X3_needLive, T_X3_needBytes, F_X3_needEntry, F_X3_needTwoEntries, F_X3_needLive, F_X3_needBytes, F_X4_isRefused, F_X4_isRefusedNode, F_X4_isRefusedHandle, F_X4_isRefusedAt, F_X4_isRefusedUser, F_X4_isRefusedRow, F_X4_isRefusedBoth, F_X4_isName, xt_n, xt_s, xb1_s, xb2_s, xl_e, t3_pow, f3_pow, t3_node0, f3_node0, t3_open, f4_off, f4_ref, f4_node0, f4_open, mr12, t3_in ha2, f3_in ha2, f4_in ha2, t3_node ha3, f4_node ha3, t3_inx ha4, f4_inx ha4]
          exact okI.t rfl rfl rfl rfl
    · skip
      by_cases ha3 : a3 = 0
      · subst ha3
        by_cases ha4 : (1 : Int) ≤ a4 ∧ a4 ≤ 99
        · skip
          simp only [T_X3_rename, F_X4_rename, F_X4_rename_139, T_X3_rename_87, T_X3_needEntry, T_X3_needTwoEntries, T_X3_needLive, T_X3_needBytes, F_X3_needEntry, F_X3_needTwoEntries, F_X3_needLive, F_X3_needBytes, F_X4_isRefused, F_X4_isRefusedNode, F_X4_isRefusedHandle, F_X4_isRefusedAt, F_X4_isRefusedUser, F_X4_isRefusedRow, F_X4_isRefusedBoth, F_X4_isName, xt_n, xt_s, xb1_s, xb2_s, xl_e, t3_pow, f3_pow, t3_node0, f3_node0, t3_open, f4_off, f4_ref, f4_node0, f4_open, mr12, t3_inx ha2, f4_inx ha2, t3_in ha4, f3_in ha4, f4_in ha4]
          exact okI.t rfl rfl rfl rfl
        · skip
          simp only [T_X3_rename, F_X4_rename, F_X4_rename_139, T_X3_rename_87, T_X3_needEntry, T_X3_needTwoEntries, T_X3_needLive, T_X3_needBytes, F_X3_needEntry, F_X3_needTwoEntries, F_X3_needLive, F_X3_needBytes, F_X4_isRefused, F_X4_isRefusedNode, F_X4_isRefusedHandle, F_X4_isRefusedAt, F_X4_isRefusedUser, F_X4_isRefusedRow, F_X4_isRefusedBoth, F_X4_isName, xt_n, xt_s, xb1_s, xb2_s, xl_e, t3_pow, f3_pow, t3_node0, f3_node0, t3_open, f4_off, f4_ref, f4_node0, f4_open, mr12, t3_inx ha2, f4_inx ha2, t3_inx ha4, f4_inx ha4]
          exact okI.t rfl rfl rfl rfl
      · skip
        by_cases ha4 : (1 : Int) ≤ a4 ∧ a4 ≤ 99
        · skip
          simp only [T_X3_rename, F_X4_rename, F_X4_rename_139, T_X3_rename_87, T_X3_needEntry, T_X3_needTwoEntries, T_X3_needLive, T_X3_needBytes, F_X3_needEntry, F_X3_needTwoEntries, F_X3_needLive, F_X3_needBytes, F_X4_isRefused, F_X4_isRefusedNode, F_X4_isRefusedHandle, F_X4_isRefusedAt, F_X4_isRefusedUser, F_X4_isRefusedRow, F_X4_isRefusedBoth, F_X4_isName, xt_n, xt_s, xb1_s, xb2_s, xl_e, t3_pow, f3_pow, t3_node0, f3_node0, t3_open, f4_off, f4_ref, f4_node0, f4_open, mr12, t3_inx ha2, f4_inx ha2, t3_node ha3, f4_node ha3, t3_in ha4, f3_in ha4, f4_in ha4]
          exact okI.t rfl rfl rfl rfl
        · skip
          simp only [T_X3_rename, F_X4_rename, F_X4_rename_139, T_X3_rename_87, T_X3_needEntry, T_X3_needTwoEntries, T_X3_needLive, T_X3_needBytes, F_X3_needEntry, F_X3_needTwoEntries, F_X3_needLive, F_X3_needBytes, F_X4_isRefused, F_X4_isRefusedNode, F_X4_isRefusedHandle, F_X4_isRefusedAt, F_X4_isRefusedUser, F_X4_isRefusedRow, F_X4_isRefusedBoth, F_X4_isName, xt_n, xt_s, xb1_s, xb2_s, xl_e, t3_pow, f3_pow, t3_node0, f3_node0, t3_open, f4_off, f4_ref, f4_node0, f4_open, mr12, t3_inx ha2, f4_inx ha2, t3_node ha3, f4_node ha3, t3_inx ha4, f4_inx ha4]
          exact okI.t rfl rfl rfl rfl
  · skip
    by_cases ha2 : (1 : Int) ≤ a2 ∧ a2 ≤ 99
    · skip
      by_cases ha3 : a3 = 0
      · subst ha3
        by_cases ha4 : (1 : Int) ≤ a4 ∧ a4 ≤ 99
        · skip
          simp only [T_X3_rename, F_X4_rename, F_X4_rename_139, T_X3_rename_87, T_X3_needEntry, T_X3_needTwoEntries, T_X3_needLive, T_X3_needBytes, F_X3_needEntry, F_X3_needTwoEntries, F_X3_needLive, F_X3_needBytes, F_X4_isRefused, F_X4_isRefusedNode, F_X4_isRefusedHandle, F_X4_isRefusedAt, F_X4_isRefusedUser, F_X4_isRefusedRow, F_X4_isRefusedBoth, F_X4_isName, xt_n, xt_s, xb1_s, xb2_s, xl_e, t3_pow, f3_pow, t3_node0, f3_node0, t3_open, f4_off, f4_ref, f4_node0, f4_open, mr12, t3_node ha1, f4_node ha1, t3_in ha2, f3_in ha2, f4_in ha2, t3_in ha4, f3_in ha4, f4_in ha4]
          exact okI.t rfl rfl rfl rfl
        · skip
          simp only [T_X3_rename, F_X4_rename, F_X4_rename_139, T_X3_rename_87, T_X3_needEntry, T_X3_needTwoEntries, T_X3_needLive, T_X3_needBytes, F_X3_needEntry, F_X3_needTwoEntries, F_X3_needLive, F_X3_needBytes, F_X4_isRefused, F_X4_isRefusedNode, F_X4_isRefusedHandle, F_X4_isRefusedAt, F_X4_isRefusedUser, F_X4_isRefusedRow, F_X4_isRefusedBoth, F_X4_isName, xt_n, xt_s, xb1_s, xb2_s, xl_e, t3_pow, f3_pow, t3_node0, f3_node0, t3_open, f4_off, f4_ref, f4_node0, f4_open, mr12, t3_node ha1, f4_node ha1, t3_in ha2, f3_in ha2, f4_in ha2, t3_inx ha4, f4_inx ha4]
          exact okI.t rfl rfl rfl rfl
      · skip
        by_cases ha4 : (1 : Int) ≤ a4 ∧ a4 ≤ 99
        · skip
          simp only [T_X3_rename, F_X4_rename, F_X4_rename_139, T_X3_rename_87, T_X3_needEntry, T_X3_needTwoEntries, T_X3_needLive, T_X3_needBytes, F_X3_needEntry, F_X3_needTwoEntries, F_X3_needLive, F_X3_needBytes, F_X4_isRefused, F_X4_isRefusedNode, F_X4_isRefusedHandle, F_X4_isRefusedAt, F_X4_isRefusedUser, F_X4_isRefusedRow, F_X4_isRefusedBoth, F_X4_isName, xt_n, xt_s, xb1_s, xb2_s, xl_e, t3_pow, f3_pow, t3_node0, f3_node0, t3_open, f4_off, f4_ref, f4_node0, f4_open, mr12, t3_node ha1, f4_node ha1, t3_in ha2, f3_in ha2, f4_in ha2, t3_node ha3, f4_node ha3, t3_in ha4, f3_in ha4, f4_in ha4]
          exact okI.t rfl rfl rfl rfl
        · skip
          simp only [T_X3_rename, F_X4_rename, F_X4_rename_139, T_X3_rename_87, T_X3_needEntry, T_X3_needTwoEntries, T_X3_needLive, T_X3_needBytes, F_X3_needEntry, F_X3_needTwoEntries, F_X3_needLive, F_X3_needBytes, F_X4_isRefused, F_X4_isRefusedNode, F_X4_isRefusedHandle, F_X4_isRefusedAt, F_X4_isRefusedUser, F_X4_isRefusedRow, F_X4_isRefusedBoth, F_X4_isName, xt_n, xt_s, xb1_s, xb2_s, xl_e, t3_pow, f3_pow, t3_node0, f3_node0, t3_open, f4_off, f4_ref, f4_node0, f4_open, mr12, t3_node ha1, f4_node ha1, t3_in ha2, f3_in ha2, f4_in ha2, t3_node ha3, f4_node ha3, t3_inx ha4, f4_inx ha4]
          exact okI.t rfl rfl rfl rfl
    · skip
      by_cases ha3 : a3 = 0
      · subst ha3
        by_cases ha4 : (1 : Int) ≤ a4 ∧ a4 ≤ 99
        · skip
          simp only [T_X3_rename, F_X4_rename, F_X4_rename_139, T_X3_rename_87, T_X3_needEntry, T_X3_needTwoEntries, T_X3_needLive, T_X3_needBytes, F_X3_needEntry, F_X3_needTwoEntries, F_X3_needLive, F_X3_needBytes, F_X4_isRefused, F_X4_isRefusedNode, F_X4_isRefusedHandle, F_X4_isRefusedAt, F_X4_isRefusedUser, F_X4_isRefusedRow, F_X4_isRefusedBoth, F_X4_isName, xt_n, xt_s, xb1_s, xb2_s, xl_e, t3_pow, f3_pow, t3_node0, f3_node0, t3_open, f4_off, f4_ref, f4_node0, f4_open, mr12, t3_node ha1, f4_node ha1, t3_inx ha2, f4_inx ha2, t3_in ha4, f3_in ha4, f4_in ha4]
          exact okI.t rfl rfl rfl rfl
        · skip
          simp only [T_X3_rename, F_X4_rename, F_X4_rename_139, T_X3_rename_87, T_X3_needEntry, T_X3_needTwoEntries, T_X3_needLive, T_X3_needBytes, F_X3_needEntry, F_X3_needTwoEntries, F_X3_needLive, F_X3_needBytes, F_X4_isRefused, F_X4_isRefusedNode, F_X4_isRefusedHandle, F_X4_isRefusedAt, F_X4_isRefusedUser, F_X4_isRefusedRow, F_X4_isRefusedBoth, F_X4_isName, xt_n, xt_s, xb1_s, xb2_s, xl_e, t3_pow, f3_pow, t3_node0, f3_node0, t3_open, f4_off, f4_ref, f4_node0, f4_open, mr12, t3_node ha1, f4_node ha1, t3_inx ha2, f4_inx ha2, t3_inx ha4, f4_inx ha4]
          exact okI.t rfl rfl rfl rfl
      · skip
        by_cases ha4 : (1 : Int) ≤ a4 ∧ a4 ≤ 99
        · skip
          simp only [T_X3_rename, F_X4_rename, F_X4_rename_139, T_X3_rename_87, T_X3_needEntry, T_X3_needTwoEntries, T_X3_needLive, T_X3_needBytes, F_X3_needEntry, F_X3_needTwoEntries, F_X3_needLive, F_X3_needBytes, F_X4_isRefused, F_X4_isRefusedNode, F_X4_isRefusedHandle, F_X4_isRefusedAt, F_X4_isRefusedUser, F_X4_isRefusedRow, F_X4_isRefusedBoth, F_X4_isName, xt_n, xt_s, xb1_s, xb2_s, xl_e, t3_pow, f3_pow, t3_node0, f3_node0, t3_open, f4_off, f4_ref, f4_node0, f4_open, mr12, t3_node ha1, f4_node ha1, t3_inx ha2, f4_inx ha2, t3_node ha3, f4_node ha3, t3_in ha4, f3_in ha4, f4_in ha4]
          exact okI.t rfl rfl rfl rfl
        · skip
          simp only [T_X3_rename, F_X4_rename, F_X4_rename_139, T_X3_rename_87, T_X3_needEntry, T_X3_needTwoEntries, T_X3_needLive, T_X3_needBytes, F_X3_needEntry, F_X3_needTwoEntries, F_X3_needLive, F_X3_needBytes, F_X4_isRefused, F_X4_isRefusedNode, F_X4_isRefusedHandle, F_X4_isRefusedAt, F_X4_isRefusedUser, F_X4_isRefusedRow, F_X4_isRefusedBoth, F_X4_isName, xt_n, xt_s, xb1_s, xb2_s, xl_e, t3_pow, f3_pow, t3_node0, f3_node0, t3_open, f4_off, f4_ref, f4_node0, f4_open, mr12, t3_node ha1, f4_node ha1, t3_inx ha2, f4_inx ha2, t3_node ha3, f4_node ha3, t3_inx ha4, f4_inx ha4]
          exact okI.t rfl rfl rfl rfl
set_option maxHeartbeats 1000000 in
set_option maxRecDepth 20000 in
theorem p_exchange (a1 : Int) (a2 : Int) (a3 : Int) (a4 : Int) : okI (F_X3_exchange M0 a1 a2 a3 a4) (T_X3_exchange M0 a1 a2 a3 a4) (F_X4_exchange MR a1 a2 a3 a4) (fun E => if E = 1 then 1 else if E = 2 then 2 else if E = 3 then 3 else 0) := by
  by_cases ha1 : a1 = 0
  · subst ha1
    by_cases ha2 : (1 : Int) ≤ a2 ∧ a2 ≤ 99
    · skip
      by_cases ha3 : a3 = 0
      · subst ha3
        by_cases ha4 : (1 : Int) ≤ a4 ∧ a4 ≤ 99
        · skip
          simp only [F_X3_exchange, F_X4_exchange, F_X4_exchange_128, T_X3_needEntry, T_X3_needTwoEntries, T_X3_needLive, T_X3_needBytes, F_X3_needEntry, F_X3_needTwoEntries, F_X3_needLive, F_X3_needBytes, F_X4_isRefused, F_X4_isRefusedNode, F_X4_isRefusedHandle, F_X4_isRefusedAt, F_X4_isRefusedUser, F_X4_isRefusedRow, F_X4_isRefusedBoth, F_X4_isName, xt_n, xt_s, xb1_s, xb2_s, xl_e, t3_pow, f3_pow, t3_node0, f3_node0, t3_open, f4_off, f4_ref, f4_node0, f4_open, mr12, t3_in ha2, f3_in ha2, f4_in ha2, t3_in ha4, f3_in ha4, f4_in ha4]
          exact okI.n rfl rfl rfl
        · skip
          simp only [T_X3_exchange, F_X4_exchange, F_X4_exchange_128, T_X3_needEntry, T_X3_needTwoEntries, T_X3_needLive, T_X3_needBytes, F_X3_needEntry, F_X3_needTwoEntries, F_X3_needLive, F_X3_needBytes, F_X4_isRefused, F_X4_isRefusedNode, F_X4_isRefusedHandle, F_X4_isRefusedAt, F_X4_isRefusedUser, F_X4_isRefusedRow, F_X4_isRefusedBoth, F_X4_isName, xt_n, xt_s, xb1_s, xb2_s, xl_e, t3_pow, f3_pow, t3_node0, f3_node0, t3_open, f4_off, f4_ref, f4_node0, f4_open, mr12, t3_in ha2, f3_in ha2, f4_in ha2, t3_inx ha4, f4_inx ha4]
          exact okI.t rfl rfl rfl rfl
      · skip
        by_cases ha4 : (1 : Int) ≤ a4 ∧ a4 ≤ 99
        · skip
          simp only [T_X3_exchange, F_X4_exchange, F_X4_exchange_128, T_X3_needEntry, T_X3_needTwoEntries, T_X3_needLive, T_X3_needBytes, F_X3_needEntry, F_X3_needTwoEntries, F_X3_needLive, F_X3_needBytes, F_X4_isRefused, F_X4_isRefusedNode, F_X4_isRefusedHandle, F_X4_isRefusedAt, F_X4_isRefusedUser, F_X4_isRefusedRow, F_X4_isRefusedBoth, F_X4_isName, xt_n, xt_s, xb1_s, xb2_s, xl_e, t3_pow, f3_pow, t3_node0, f3_node0, t3_open, f4_off, f4_ref, f4_node0, f4_open, mr12, t3_in ha2, f3_in ha2, f4_in ha2, t3_node ha3, f4_node ha3, t3_in ha4, f3_in ha4, f4_in ha4]
          exact okI.t rfl rfl rfl rfl
        · skip
          simp only [T_X3_exchange, F_X4_exchange, F_X4_exchange_128, T_X3_needEntry, T_X3_needTwoEntries, T_X3_needLive, T_X3_needBytes, F_X3_needEntry, F_X3_needTwoEntries, F_X3_needLive, F_X3_needBytes, F_X4_isRefused, F_X4_isRefusedNode, F_X4_isRefusedHandle, F_X4_isRefusedAt, F_X4_isRefusedUser, F_X4_isRefusedRow, F_X4_isRefusedBoth, F_X4_isName, xt_n, xt_s, xb1_s, xb2_s, xl_e, t3_pow, f3_pow, t3_node0, f3_node0, t3_open, f4_off, f4_ref, f4_node0, f4_open, mr12, t3_in ha2, f3_in ha2, f4_in ha2, t3_node ha3, f4_node ha3, t3_inx ha4, f4_inx ha4]
          exact okI.t rfl rfl rfl rfl
    · skip
      by_cases ha3 : a3 = 0
      · subst ha3
        by_cases ha4 : (1 : Int) ≤ a4 ∧ a4 ≤ 99
        · skip
          simp only [T_X3_exchange, F_X4_exchange, F_X4_exchange_128, T_X3_needEntry, T_X3_needTwoEntries, T_X3_needLive, T_X3_needBytes, F_X3_needEntry, F_X3_needTwoEntries, F_X3_needLive, F_X3_needBytes, F_X4_isRefused, F_X4_isRefusedNode, F_X4_isRefusedHandle, F_X4_isRefusedAt, F_X4_isRefusedUser, F_X4_isRefusedRow, F_X4_isRefusedBoth, F_X4_isName, xt_n, xt_s, xb1_s, xb2_s, xl_e, t3_pow, f3_pow, t3_node0, f3_node0, t3_open, f4_off, f4_ref, f4_node0, f4_open, mr12, t3_inx ha2, f4_inx ha2, t3_in ha4, f3_in ha4, f4_in ha4]
          exact okI.t rfl rfl rfl rfl
        · skip
          simp only [T_X3_exchange, F_X4_exchange, F_X4_exchange_128, T_X3_needEntry, T_X3_needTwoEntries, T_X3_needLive, T_X3_needBytes, F_X3_needEntry, F_X3_needTwoEntries, F_X3_needLive, F_X3_needBytes, F_X4_isRefused, F_X4_isRefusedNode, F_X4_isRefusedHandle, F_X4_isRefusedAt, F_X4_isRefusedUser, F_X4_isRefusedRow, F_X4_isRefusedBoth, F_X4_isName, xt_n, xt_s, xb1_s, xb2_s, xl_e, t3_pow, f3_pow, t3_node0, f3_node0, t3_open, f4_off, f4_ref, f4_node0, f4_open, mr12, t3_inx ha2, f4_inx ha2, t3_inx ha4, f4_inx ha4]
          exact okI.t rfl rfl rfl rfl
      · skip
        by_cases ha4 : (1 : Int) ≤ a4 ∧ a4 ≤ 99
        · skip
          simp only [T_X3_exchange, F_X4_exchange, F_X4_exchange_128, T_X3_needEntry, T_X3_needTwoEntries, T_X3_needLive, T_X3_needBytes, F_X3_needEntry, F_X3_needTwoEntries, F_X3_needLive, F_X3_needBytes, F_X4_isRefused, F_X4_isRefusedNode, F_X4_isRefusedHandle, F_X4_isRefusedAt, F_X4_isRefusedUser, F_X4_isRefusedRow, F_X4_isRefusedBoth, F_X4_isName, xt_n, xt_s, xb1_s, xb2_s, xl_e, t3_pow, f3_pow, t3_node0, f3_node0, t3_open, f4_off, f4_ref, f4_node0, f4_open, mr12, t3_inx ha2, f4_inx ha2, t3_node ha3, f4_node ha3, t3_in ha4, f3_in ha4, f4_in ha4]
          exact okI.t rfl rfl rfl rfl
        · skip
          simp only [T_X3_exchange, F_X4_exchange, F_X4_exchange_128, T_X3_needEntry, T_X3_needTwoEntries, T_X3_needLive, T_X3_needBytes, F_X3_needEntry, F_X3_needTwoEntries, F_X3_needLive, F_X3_needBytes, F_X4_isRefused, F_X4_isRefusedNode, F_X4_isRefusedHandle, F_X4_isRefusedAt, F_X4_isRefusedUser, F_X4_isRefusedRow, F_X4_isRefusedBoth, F_X4_isName, xt_n, xt_s, xb1_s, xb2_s, xl_e, t3_pow, f3_pow, t3_node0, f3_node0, t3_open, f4_off, f4_ref, f4_node0, f4_open, mr12, t3_inx ha2, f4_inx ha2, t3_node ha3, f4_node ha3, t3_inx ha4, f4_inx ha4]
          exact okI.t rfl rfl rfl rfl
  · skip
    by_cases ha2 : (1 : Int) ≤ a2 ∧ a2 ≤ 99
    · skip
      by_cases ha3 : a3 = 0
      · subst ha3
        by_cases ha4 : (1 : Int) ≤ a4 ∧ a4 ≤ 99
        · skip
          simp only [T_X3_exchange, F_X4_exchange, F_X4_exchange_128, T_X3_needEntry, T_X3_needTwoEntries, T_X3_needLive, T_X3_needBytes, F_X3_needEntry, F_X3_needTwoEntries, F_X3_needLive, F_X3_needBytes, F_X4_isRefused, F_X4_isRefusedNode, F_X4_isRefusedHandle, F_X4_isRefusedAt, F_X4_isRefusedUser, F_X4_isRefusedRow, F_X4_isRefusedBoth, F_X4_isName, xt_n, xt_s, xb1_s, xb2_s, xl_e, t3_pow, f3_pow, t3_node0, f3_node0, t3_open, f4_off, f4_ref, f4_node0, f4_open, mr12, t3_node ha1, f4_node ha1, t3_in ha2, f3_in ha2, f4_in ha2, t3_in ha4, f3_in ha4, f4_in ha4]
          exact okI.t rfl rfl rfl rfl
        · skip
          simp only [T_X3_exchange, F_X4_exchange, F_X4_exchange_128, T_X3_needEntry, T_X3_needTwoEntries, T_X3_needLive, T_X3_needBytes, F_X3_needEntry, F_X3_needTwoEntries, F_X3_needLive, F_X3_needBytes, F_X4_isRefused, F_X4_isRefusedNode, F_X4_isRefusedHandle, F_X4_isRefusedAt, F_X4_isRefusedUser, F_X4_isRefusedRow, F_X4_isRefusedBoth, F_X4_isName, xt_n, xt_s, xb1_s, xb2_s, xl_e, t3_pow, f3_pow, t3_node0, f3_node0, t3_open, f4_off, f4_ref, f4_node0, f4_open, mr12, t3_node ha1, f4_node ha1, t3_in ha2, f3_in ha2, f4_in ha2, t3_inx ha4, f4_inx ha4]
          exact okI.t rfl rfl rfl rfl
      · skip
        by_cases ha4 : (1 : Int) ≤ a4 ∧ a4 ≤ 99
        · skip
          simp only [T_X3_exchange, F_X4_exchange, F_X4_exchange_128, T_X3_needEntry, T_X3_needTwoEntries, T_X3_needLive, T_X3_needBytes, F_X3_needEntry, F_X3_needTwoEntries, F_X3_needLive, F_X3_needBytes, F_X4_isRefused, F_X4_isRefusedNode, F_X4_isRefusedHandle, F_X4_isRefusedAt, F_X4_isRefusedUser, F_X4_isRefusedRow, F_X4_isRefusedBoth, F_X4_isName, xt_n, xt_s, xb1_s, xb2_s, xl_e, t3_pow, f3_pow, t3_node0, f3_node0, t3_open, f4_off, f4_ref, f4_node0, f4_open, mr12, t3_node ha1, f4_node ha1, t3_in ha2, f3_in ha2, f4_in ha2, t3_node ha3, f4_node ha3, t3_in ha4, f3_in ha4, f4_in ha4]
          exact okI.t rfl rfl rfl rfl
        · skip
          simp only [T_X3_exchange, F_X4_exchange, F_X4_exchange_128, T_X3_needEntry, T_X3_needTwoEntries, T_X3_needLive, T_X3_needBytes, F_X3_needEntry, F_X3_needTwoEntries, F_X3_needLive, F_X3_needBytes, F_X4_isRefused, F_X4_isRefusedNode, F_X4_isRefusedHandle, F_X4_isRefusedAt, F_X4_isRefusedUser, F_X4_isRefusedRow, F_X4_isRefusedBoth, F_X4_isName, xt_n, xt_s, xb1_s, xb2_s, xl_e, t3_pow, f3_pow, t3_node0, f3_node0, t3_open, f4_off, f4_ref, f4_node0, f4_open, mr12, t3_node ha1, f4_node ha1, t3_in ha2, f3_in ha2, f4_in ha2, t3_node ha3, f4_node ha3, t3_inx ha4, f4_inx ha4]
          exact okI.t rfl rfl rfl rfl
    · skip
      by_cases ha3 : a3 = 0
      · subst ha3
        by_cases ha4 : (1 : Int) ≤ a4 ∧ a4 ≤ 99
        · skip
          simp only [T_X3_exchange, F_X4_exchange, F_X4_exchange_128, T_X3_needEntry, T_X3_needTwoEntries, T_X3_needLive, T_X3_needBytes, F_X3_needEntry, F_X3_needTwoEntries, F_X3_needLive, F_X3_needBytes, F_X4_isRefused, F_X4_isRefusedNode, F_X4_isRefusedHandle, F_X4_isRefusedAt, F_X4_isRefusedUser, F_X4_isRefusedRow, F_X4_isRefusedBoth, F_X4_isName, xt_n, xt_s, xb1_s, xb2_s, xl_e, t3_pow, f3_pow, t3_node0, f3_node0, t3_open, f4_off, f4_ref, f4_node0, f4_open, mr12, t3_node ha1, f4_node ha1, t3_inx ha2, f4_inx ha2, t3_in ha4, f3_in ha4, f4_in ha4]
          exact okI.t rfl rfl rfl rfl
        · skip
          simp only [T_X3_exchange, F_X4_exchange, F_X4_exchange_128, T_X3_needEntry, T_X3_needTwoEntries, T_X3_needLive, T_X3_needBytes, F_X3_needEntry, F_X3_needTwoEntries, F_X3_needLive, F_X3_needBytes, F_X4_isRefused, F_X4_isRefusedNode, F_X4_isRefusedHandle, F_X4_isRefusedAt, F_X4_isRefusedUser, F_X4_isRefusedRow, F_X4_isRefusedBoth, F_X4_isName, xt_n, xt_s, xb1_s, xb2_s, xl_e, t3_pow, f3_pow, t3_node0, f3_node0, t3_open, f4_off, f4_ref, f4_node0, f4_open, mr12, t3_node ha1, f4_node ha1, t3_inx ha2, f4_inx ha2, t3_inx ha4, f4_inx ha4]
          exact okI.t rfl rfl rfl rfl
      · skip
        by_cases ha4 : (1 : Int) ≤ a4 ∧ a4 ≤ 99
        · skip
          simp only [T_X3_exchange, F_X4_exchange, F_X4_exchange_128, T_X3_needEntry, T_X3_needTwoEntries, T_X3_needLive, T_X3_needBytes, F_X3_needEntry, F_X3_needTwoEntries, F_X3_needLive, F_X3_needBytes, F_X4_isRefused, F_X4_isRefusedNode, F_X4_isRefusedHandle, F_X4_isRefusedAt, F_X4_isRefusedUser, F_X4_isRefusedRow, F_X4_isRefusedBoth, F_X4_isName, xt_n, xt_s, xb1_s, xb2_s, xl_e, t3_pow, f3_pow, t3_node0, f3_node0, t3_open, f4_off, f4_ref, f4_node0, f4_open, mr12, t3_node ha1, f4_node ha1, t3_inx ha2, f4_inx ha2, t3_node ha3, f4_node ha3, t3_in ha4, f3_in ha4, f4_in ha4]
          exact okI.t rfl rfl rfl rfl
        · skip
          simp only [T_X3_exchange, F_X4_exchange, F_X4_exchange_128, T_X3_needEntry, T_X3_needTwoEntries, T_X3_needLive, T_X3_needBytes, F_X3_needEntry, F_X3_needTwoEntries, F_X3_needLive, F_X3_needBytes, F_X4_isRefused, F_X4_isRefusedNode, F_X4_isRefusedHandle, F_X4_isRefusedAt, F_X4_isRefusedUser, F_X4_isRefusedRow, F_X4_isRefusedBoth, F_X4_isName, xt_n, xt_s, xb1_s, xb2_s, xl_e, t3_pow, f3_pow, t3_node0, f3_node0, t3_open, f4_off, f4_ref, f4_node0, f4_open, mr12, t3_node ha1, f4_node ha1, t3_inx ha2, f4_inx ha2, t3_node ha3, f4_node ha3, t3_inx ha4, f4_inx ha4]
          exact okI.t rfl rfl rfl rfl
set_option maxHeartbeats 1000000 in
set_option maxRecDepth 20000 in
theorem p_write (a1 : Int) (a2 : Int) (a3 : Int) : okI (F_X3_write M0 a1 a2 a3) (T_X3_write M0 a1 a2 a3) (F_X4_write MR a1 a2 a3) (fun E => if E = 1 then 1 else if E = 2 then 2 else if E = 3 then 3 else 0) := by
  simp only [T_X3_write, F_X4_write, F_X4_write_47, F_X4_write_53, T_X3_needEntry, T_X3_needTwoEntries, T_X3_needLive, T_X3_needBytes, F_X3_needEntry, F_X3_needTwoEntries, F_X3_needLive, F_X3_needBytes, F_X4_isRefused, F_X4_isRefusedNode, F_X4_isRefusedHandle, F_X4_isRefusedAt, F_X4_isRefusedUser, F_X4_isRefusedRow, F_X4_isRefusedBoth, F_X4_isName, xt_n, xt_s, xb1_s, xb2_s, xl_e, t3_pow, f3_pow, t3_node0, f3_node0, t3_open, f4_off, f4_ref, f4_node0, f4_open, mr12]
  exact okI.t rfl rfl rfl rfl
set_option maxHeartbeats 1000000 in
set_option maxRecDepth 20000 in
theorem p_truncate (a1 : Int) (a2 : Int) : okI (F_X3_truncate M0 a1 a2) (T_X3_truncate M0 a1 a2) (F_X4_truncate MR a1 a2) (fun E => if E = 1 then 1 else if E = 2 then 2 else if E = 3 then 3 else 0) := by
  by_cases ha1 : a1 = 0
  · subst ha1
    by_cases ha2 : (0 : Int) ≤ a2 ∧ a2 ≤ 320
    · skip
      simp only [F_X3_truncate, F_X4_truncate, F_X4_truncate_43, T_X3_needEntry, T_X3_needTwoEntries, T_X3_needLive, T_X3_needBytes, F_X3_needEntry, F_X3_needTwoEntries, F_X3_needLive, F_X3_needBytes, F_X4_isRefused, F_X4_isRefusedNode, F_X4_isRefusedHandle, F_X4_isRefusedAt, F_X4_isRefusedUser, F_X4_isRefusedRow, F_X4_isRefusedBoth, F_X4_isName, xt_n, xt_s, xb1_s, xb2_s, xl_e, t3_pow, f3_pow, t3_node0, f3_node0, t3_open, f4_off, f4_ref, f4_node0, f4_open, mr12, t3_in ha2, f3_in ha2, f4_in ha2]
      exact okI.n rfl rfl rfl
    · skip
      simp only [T_X3_truncate, F_X4_truncate, F_X4_truncate_43, T_X3_needEntry, T_X3_needTwoEntries, T_X3_needLive, T_X3_needBytes, F_X3_needEntry, F_X3_needTwoEntries, F_X3_needLive, F_X3_needBytes, F_X4_isRefused, F_X4_isRefusedNode, F_X4_isRefusedHandle, F_X4_isRefusedAt, F_X4_isRefusedUser, F_X4_isRefusedRow, F_X4_isRefusedBoth, F_X4_isName, xt_n, xt_s, xb1_s, xb2_s, xl_e, t3_pow, f3_pow, t3_node0, f3_node0, t3_open, f4_off, f4_ref, f4_node0, f4_open, mr12, t3_inx ha2, f4_inx ha2]
      exact okI.t rfl rfl rfl rfl
  · skip
    by_cases ha2 : (0 : Int) ≤ a2 ∧ a2 ≤ 320
    · skip
      simp only [T_X3_truncate, F_X4_truncate, F_X4_truncate_43, T_X3_needEntry, T_X3_needTwoEntries, T_X3_needLive, T_X3_needBytes, F_X3_needEntry, F_X3_needTwoEntries, F_X3_needLive, F_X3_needBytes, F_X4_isRefused, F_X4_isRefusedNode, F_X4_isRefusedHandle, F_X4_isRefusedAt, F_X4_isRefusedUser, F_X4_isRefusedRow, F_X4_isRefusedBoth, F_X4_isName, xt_n, xt_s, xb1_s, xb2_s, xl_e, t3_pow, f3_pow, t3_node0, f3_node0, t3_open, f4_off, f4_ref, f4_node0, f4_open, mr12, t3_node ha1, f4_node ha1, t3_in ha2, f3_in ha2, f4_in ha2]
      exact okI.t rfl rfl rfl rfl
    · skip
      simp only [T_X3_truncate, F_X4_truncate, F_X4_truncate_43, T_X3_needEntry, T_X3_needTwoEntries, T_X3_needLive, T_X3_needBytes, F_X3_needEntry, F_X3_needTwoEntries, F_X3_needLive, F_X3_needBytes, F_X4_isRefused, F_X4_isRefusedNode, F_X4_isRefusedHandle, F_X4_isRefusedAt, F_X4_isRefusedUser, F_X4_isRefusedRow, F_X4_isRefusedBoth, F_X4_isName, xt_n, xt_s, xb1_s, xb2_s, xl_e, t3_pow, f3_pow, t3_node0, f3_node0, t3_open, f4_off, f4_ref, f4_node0, f4_open, mr12, t3_node ha1, f4_node ha1, t3_inx ha2, f4_inx ha2]
      exact okI.t rfl rfl rfl rfl
set_option maxHeartbeats 1000000 in
set_option maxRecDepth 20000 in
theorem p_punch (a1 : Int) (a2 : Int) : okI (F_X3_punch M0 a1 a2) (T_X3_punch M0 a1 a2) (F_X4_punch MR a1 a2) (fun E => if E = 1 then 1 else if E = 2 then 2 else if E = 3 then 3 else 0) := by
  by_cases ha1 : a1 = 0
  · subst ha1
    by_cases ha2 : (0 : Int) ≤ a2 ∧ a2 ≤ 19
    · skip
      simp only [F_X3_punch, F_X4_punch, F_X4_punch_57, T_X3_needEntry, T_X3_needTwoEntries, T_X3_needLive, T_X3_needBytes, F_X3_needEntry, F_X3_needTwoEntries, F_X3_needLive, F_X3_needBytes, F_X4_isRefused, F_X4_isRefusedNode, F_X4_isRefusedHandle, F_X4_isRefusedAt, F_X4_isRefusedUser, F_X4_isRefusedRow, F_X4_isRefusedBoth, F_X4_isName, xt_n, xt_s, xb1_s, xb2_s, xl_e, t3_pow, f3_pow, t3_node0, f3_node0, t3_open, f4_off, f4_ref, f4_node0, f4_open, mr12, t3_in ha2, f3_in ha2, f4_in ha2]
      exact okI.n rfl rfl rfl
    · skip
      simp only [T_X3_punch, F_X4_punch, F_X4_punch_57, T_X3_needEntry, T_X3_needTwoEntries, T_X3_needLive, T_X3_needBytes, F_X3_needEntry, F_X3_needTwoEntries, F_X3_needLive, F_X3_needBytes, F_X4_isRefused, F_X4_isRefusedNode, F_X4_isRefusedHandle, F_X4_isRefusedAt, F_X4_isRefusedUser, F_X4_isRefusedRow, F_X4_isRefusedBoth, F_X4_isName, xt_n, xt_s, xb1_s, xb2_s, xl_e, t3_pow, f3_pow, t3_node0, f3_node0, t3_open, f4_off, f4_ref, f4_node0, f4_open, mr12, t3_inx ha2, f4_inx ha2]
      exact okI.t rfl rfl rfl rfl
  · skip
    by_cases ha2 : (0 : Int) ≤ a2 ∧ a2 ≤ 19
    · skip
      simp only [T_X3_punch, F_X4_punch, F_X4_punch_57, T_X3_needEntry, T_X3_needTwoEntries, T_X3_needLive, T_X3_needBytes, F_X3_needEntry, F_X3_needTwoEntries, F_X3_needLive, F_X3_needBytes, F_X4_isRefused, F_X4_isRefusedNode, F_X4_isRefusedHandle, F_X4_isRefusedAt, F_X4_isRefusedUser, F_X4_isRefusedRow, F_X4_isRefusedBoth, F_X4_isName, xt_n, xt_s, xb1_s, xb2_s, xl_e, t3_pow, f3_pow, t3_node0, f3_node0, t3_open, f4_off, f4_ref, f4_node0, f4_open, mr12, t3_node ha1, f4_node ha1, t3_in ha2, f3_in ha2, f4_in ha2]
      exact okI.t rfl rfl rfl rfl
    · skip
      simp only [T_X3_punch, F_X4_punch, F_X4_punch_57, T_X3_needEntry, T_X3_needTwoEntries, T_X3_needLive, T_X3_needBytes, F_X3_needEntry, F_X3_needTwoEntries, F_X3_needLive, F_X3_needBytes, F_X4_isRefused, F_X4_isRefusedNode, F_X4_isRefusedHandle, F_X4_isRefusedAt, F_X4_isRefusedUser, F_X4_isRefusedRow, F_X4_isRefusedBoth, F_X4_isName, xt_n, xt_s, xb1_s, xb2_s, xl_e, t3_pow, f3_pow, t3_node0, f3_node0, t3_open, f4_off, f4_ref, f4_node0, f4_open, mr12, t3_node ha1, f4_node ha1, t3_inx ha2, f4_inx ha2]
      exact okI.t rfl rfl rfl rfl
set_option maxHeartbeats 1000000 in
set_option maxRecDepth 20000 in
theorem p_share (a1 : Int) (a2 : Int) (a3 : Int) (a4 : Int) : okI (F_X3_share M0 a1 a2 a3 a4) (T_X3_share M0 a1 a2 a3 a4) (F_X4_share MR a1 a2 a3 a4) (fun E => if E = 1 then 1 else if E = 2 then 2 else if E = 3 then 3 else 0) := by
  by_cases ha1 : a1 = 0
  · subst ha1
    by_cases ha2 : (0 : Int) ≤ a2 ∧ a2 ≤ 19
    · skip
      by_cases ha3 : a3 = 0
      · subst ha3
        by_cases ha4 : (0 : Int) ≤ a4 ∧ a4 ≤ 19
        · skip
          simp only [F_X3_share, F_X4_share, F_X4_share_25, F_X4_share_55, F_X4_share_61, T_X3_needEntry, T_X3_needTwoEntries, T_X3_needLive, T_X3_needBytes, F_X3_needEntry, F_X3_needTwoEntries, F_X3_needLive, F_X3_needBytes, F_X4_isRefused, F_X4_isRefusedNode, F_X4_isRefusedHandle, F_X4_isRefusedAt, F_X4_isRefusedUser, F_X4_isRefusedRow, F_X4_isRefusedBoth, F_X4_isName, xt_n, xt_s, xb1_s, xb2_s, xl_e, t3_pow, f3_pow, t3_node0, f3_node0, t3_open, f4_off, f4_ref, f4_node0, f4_open, mr12, t3_in ha2, f3_in ha2, f4_in ha2, t3_in ha4, f3_in ha4, f4_in ha4]
          exact okI.n rfl rfl rfl
        · skip
          simp only [T_X3_share, F_X4_share, F_X4_share_25, F_X4_share_55, F_X4_share_61, T_X3_share_94, T_X3_needEntry, T_X3_needTwoEntries, T_X3_needLive, T_X3_needBytes, F_X3_needEntry, F_X3_needTwoEntries, F_X3_needLive, F_X3_needBytes, F_X4_isRefused, F_X4_isRefusedNode, F_X4_isRefusedHandle, F_X4_isRefusedAt, F_X4_isRefusedUser, F_X4_isRefusedRow, F_X4_isRefusedBoth, F_X4_isName, xt_n, xt_s, xb1_s, xb2_s, xl_e, t3_pow, f3_pow, t3_node0, f3_node0, t3_open, f4_off, f4_ref, f4_node0, f4_open, mr12, t3_in ha2, f3_in ha2, f4_in ha2, t3_inx ha4, f4_inx ha4]
          exact okI.t rfl rfl rfl rfl
      · skip
        by_cases ha4 : (0 : Int) ≤ a4 ∧ a4 ≤ 19
        · skip
          simp only [T_X3_share, F_X4_share, F_X4_share_25, F_X4_share_55, F_X4_share_61, T_X3_share_94, T_X3_needEntry, T_X3_needTwoEntries, T_X3_needLive, T_X3_needBytes, F_X3_needEntry, F_X3_needTwoEntries, F_X3_needLive, F_X3_needBytes, F_X4_isRefused, F_X4_isRefusedNode, F_X4_isRefusedHandle, F_X4_isRefusedAt, F_X4_isRefusedUser, F_X4_isRefusedRow, F_X4_isRefusedBoth, F_X4_isName, xt_n, xt_s, xb1_s, xb2_s, xl_e, t3_pow, f3_pow, t3_node0, f3_node0, t3_open, f4_off, f4_ref, f4_node0, f4_open, mr12, t3_in ha2, f3_in ha2, f4_in ha2, t3_node ha3, f4_node ha3, t3_in ha4, f3_in ha4, f4_in ha4]
          exact okI.t rfl rfl rfl rfl
        · skip
          simp only [T_X3_share, F_X4_share, F_X4_share_25, F_X4_share_55, F_X4_share_61, T_X3_share_94, T_X3_needEntry, T_X3_needTwoEntries, T_X3_needLive, T_X3_needBytes, F_X3_needEntry, F_X3_needTwoEntries, F_X3_needLive, F_X3_needBytes, F_X4_isRefused, F_X4_isRefusedNode, F_X4_isRefusedHandle, F_X4_isRefusedAt, F_X4_isRefusedUser, F_X4_isRefusedRow, F_X4_isRefusedBoth, F_X4_isName, xt_n, xt_s, xb1_s, xb2_s, xl_e, t3_pow, f3_pow, t3_node0, f3_node0, t3_open, f4_off, f4_ref, f4_node0, f4_open, mr12, t3_in ha2, f3_in ha2, f4_in ha2, t3_node ha3, f4_node ha3, t3_inx ha4, f4_inx ha4]
          exact okI.t rfl rfl rfl rfl
    · skip
      by_cases ha3 : a3 = 0
      · subst ha3
        by_cases ha4 : (0 : Int) ≤ a4 ∧ a4 ≤ 19
        · skip
          simp only [T_X3_share, F_X4_share, F_X4_share_25, F_X4_share_55, F_X4_share_61, T_X3_share_94, T_X3_needEntry, T_X3_needTwoEntries, T_X3_needLive, T_X3_needBytes, F_X3_needEntry, F_X3_needTwoEntries, F_X3_needLive, F_X3_needBytes, F_X4_isRefused, F_X4_isRefusedNode, F_X4_isRefusedHandle, F_X4_isRefusedAt, F_X4_isRefusedUser, F_X4_isRefusedRow, F_X4_isRefusedBoth, F_X4_isName, xt_n, xt_s, xb1_s, xb2_s, xl_e, t3_pow, f3_pow, t3_node0, f3_node0, t3_open, f4_off, f4_ref, f4_node0, f4_open, mr12, t3_inx ha2, f4_inx ha2, t3_in ha4, f3_in ha4, f4_in ha4]
          exact okI.t rfl rfl rfl rfl
        · skip
          simp only [T_X3_share, F_X4_share, F_X4_share_25, F_X4_share_55, F_X4_share_61, T_X3_share_94, T_X3_needEntry, T_X3_needTwoEntries, T_X3_needLive, T_X3_needBytes, F_X3_needEntry, F_X3_needTwoEntries, F_X3_needLive, F_X3_needBytes, F_X4_isRefused, F_X4_isRefusedNode, F_X4_isRefusedHandle, F_X4_isRefusedAt, F_X4_isRefusedUser, F_X4_isRefusedRow, F_X4_isRefusedBoth, F_X4_isName, xt_n, xt_s, xb1_s, xb2_s, xl_e, t3_pow, f3_pow, t3_node0, f3_node0, t3_open, f4_off, f4_ref, f4_node0, f4_open, mr12, t3_inx ha2, f4_inx ha2, t3_inx ha4, f4_inx ha4]
          exact okI.t rfl rfl rfl rfl
      · skip
        by_cases ha4 : (0 : Int) ≤ a4 ∧ a4 ≤ 19
        · skip
          simp only [T_X3_share, F_X4_share, F_X4_share_25, F_X4_share_55, F_X4_share_61, T_X3_share_94, T_X3_needEntry, T_X3_needTwoEntries, T_X3_needLive, T_X3_needBytes, F_X3_needEntry, F_X3_needTwoEntries, F_X3_needLive, F_X3_needBytes, F_X4_isRefused, F_X4_isRefusedNode, F_X4_isRefusedHandle, F_X4_isRefusedAt, F_X4_isRefusedUser, F_X4_isRefusedRow, F_X4_isRefusedBoth, F_X4_isName, xt_n, xt_s, xb1_s, xb2_s, xl_e, t3_pow, f3_pow, t3_node0, f3_node0, t3_open, f4_off, f4_ref, f4_node0, f4_open, mr12, t3_inx ha2, f4_inx ha2, t3_node ha3, f4_node ha3, t3_in ha4, f3_in ha4, f4_in ha4]
          exact okI.t rfl rfl rfl rfl
        · skip
          simp only [T_X3_share, F_X4_share, F_X4_share_25, F_X4_share_55, F_X4_share_61, T_X3_share_94, T_X3_needEntry, T_X3_needTwoEntries, T_X3_needLive, T_X3_needBytes, F_X3_needEntry, F_X3_needTwoEntries, F_X3_needLive, F_X3_needBytes, F_X4_isRefused, F_X4_isRefusedNode, F_X4_isRefusedHandle, F_X4_isRefusedAt, F_X4_isRefusedUser, F_X4_isRefusedRow, F_X4_isRefusedBoth, F_X4_isName, xt_n, xt_s, xb1_s, xb2_s, xl_e, t3_pow, f3_pow, t3_node0, f3_node0, t3_open, f4_off, f4_ref, f4_node0, f4_open, mr12, t3_inx ha2, f4_inx ha2, t3_node ha3, f4_node ha3, t3_inx ha4, f4_inx ha4]
          exact okI.t rfl rfl rfl rfl
  · skip
    by_cases ha2 : (0 : Int) ≤ a2 ∧ a2 ≤ 19
    · skip
      by_cases ha3 : a3 = 0
      · subst ha3
        by_cases ha4 : (0 : Int) ≤ a4 ∧ a4 ≤ 19
        · skip
          simp only [T_X3_share, F_X4_share, F_X4_share_25, F_X4_share_55, F_X4_share_61, T_X3_share_94, T_X3_needEntry, T_X3_needTwoEntries, T_X3_needLive, T_X3_needBytes, F_X3_needEntry, F_X3_needTwoEntries, F_X3_needLive, F_X3_needBytes, F_X4_isRefused, F_X4_isRefusedNode, F_X4_isRefusedHandle, F_X4_isRefusedAt, F_X4_isRefusedUser, F_X4_isRefusedRow, F_X4_isRefusedBoth, F_X4_isName, xt_n, xt_s, xb1_s, xb2_s, xl_e, t3_pow, f3_pow, t3_node0, f3_node0, t3_open, f4_off, f4_ref, f4_node0, f4_open, mr12, t3_node ha1, f4_node ha1, t3_in ha2, f3_in ha2, f4_in ha2, t3_in ha4, f3_in ha4, f4_in ha4]
          exact okI.t rfl rfl rfl rfl
        · skip
          simp only [T_X3_share, F_X4_share, F_X4_share_25, F_X4_share_55, F_X4_share_61, T_X3_share_94, T_X3_needEntry, T_X3_needTwoEntries, T_X3_needLive, T_X3_needBytes, F_X3_needEntry, F_X3_needTwoEntries, F_X3_needLive, F_X3_needBytes, F_X4_isRefused, F_X4_isRefusedNode, F_X4_isRefusedHandle, F_X4_isRefusedAt, F_X4_isRefusedUser, F_X4_isRefusedRow, F_X4_isRefusedBoth, F_X4_isName, xt_n, xt_s, xb1_s, xb2_s, xl_e, t3_pow, f3_pow, t3_node0, f3_node0, t3_open, f4_off, f4_ref, f4_node0, f4_open, mr12, t3_node ha1, f4_node ha1, t3_in ha2, f3_in ha2, f4_in ha2, t3_inx ha4, f4_inx ha4]
          exact okI.t rfl rfl rfl rfl
      · skip
        by_cases ha4 : (0 : Int) ≤ a4 ∧ a4 ≤ 19
        · skip
          simp only [T_X3_share, F_X4_share, F_X4_share_25, F_X4_share_55, F_X4_share_61, T_X3_share_94, T_X3_needEntry, T_X3_needTwoEntries, T_X3_needLive, T_X3_needBytes, F_X3_needEntry, F_X3_needTwoEntries, F_X3_needLive, F_X3_needBytes, F_X4_isRefused, F_X4_isRefusedNode, F_X4_isRefusedHandle, F_X4_isRefusedAt, F_X4_isRefusedUser, F_X4_isRefusedRow, F_X4_isRefusedBoth, F_X4_isName, xt_n, xt_s, xb1_s, xb2_s, xl_e, t3_pow, f3_pow, t3_node0, f3_node0, t3_open, f4_off, f4_ref, f4_node0, f4_open, mr12, t3_node ha1, f4_node ha1, t3_in ha2, f3_in ha2, f4_in ha2, t3_node ha3, f4_node ha3, t3_in ha4, f3_in ha4, f4_in ha4]
          exact okI.t rfl rfl rfl rfl
        · skip
          simp only [T_X3_share, F_X4_share, F_X4_share_25, F_X4_share_55, F_X4_share_61, T_X3_share_94, T_X3_needEntry, T_X3_needTwoEntries, T_X3_needLive, T_X3_needBytes, F_X3_needEntry, F_X3_needTwoEntries, F_X3_needLive, F_X3_needBytes, F_X4_isRefused, F_X4_isRefusedNode, F_X4_isRefusedHandle, F_X4_isRefusedAt, F_X4_isRefusedUser, F_X4_isRefusedRow, F_X4_isRefusedBoth, F_X4_isName, xt_n, xt_s, xb1_s, xb2_s, xl_e, t3_pow, f3_pow, t3_node0, f3_node0, t3_open, f4_off, f4_ref, f4_node0, f4_open, mr12, t3_node ha1, f4_node ha1, t3_in ha2, f3_in ha2, f4_in ha2, t3_node ha3, f4_node ha3, t3_inx ha4, f4_inx ha4]
          exact okI.t rfl rfl rfl rfl
    · skip
      by_cases ha3 : a3 = 0
      · subst ha3
        by_cases ha4 : (0 : Int) ≤ a4 ∧ a4 ≤ 19
        · skip
          simp only [T_X3_share, F_X4_share, F_X4_share_25, F_X4_share_55, F_X4_share_61, T_X3_share_94, T_X3_needEntry, T_X3_needTwoEntries, T_X3_needLive, T_X3_needBytes, F_X3_needEntry, F_X3_needTwoEntries, F_X3_needLive, F_X3_needBytes, F_X4_isRefused, F_X4_isRefusedNode, F_X4_isRefusedHandle, F_X4_isRefusedAt, F_X4_isRefusedUser, F_X4_isRefusedRow, F_X4_isRefusedBoth, F_X4_isName, xt_n, xt_s, xb1_s, xb2_s, xl_e, t3_pow, f3_pow, t3_node0, f3_node0, t3_open, f4_off, f4_ref, f4_node0, f4_open, mr12, t3_node ha1, f4_node ha1, t3_inx ha2, f4_inx ha2, t3_in ha4, f3_in ha4, f4_in ha4]
          exact okI.t rfl rfl rfl rfl
        · skip
          simp only [T_X3_share, F_X4_share, F_X4_share_25, F_X4_share_55, F_X4_share_61, T_X3_share_94, T_X3_needEntry, T_X3_needTwoEntries, T_X3_needLive, T_X3_needBytes, F_X3_needEntry, F_X3_needTwoEntries, F_X3_needLive, F_X3_needBytes, F_X4_isRefused, F_X4_isRefusedNode, F_X4_isRefusedHandle, F_X4_isRefusedAt, F_X4_isRefusedUser, F_X4_isRefusedRow, F_X4_isRefusedBoth, F_X4_isName, xt_n, xt_s, xb1_s, xb2_s, xl_e, t3_pow, f3_pow, t3_node0, f3_node0, t3_open, f4_off, f4_ref, f4_node0, f4_open, mr12, t3_node ha1, f4_node ha1, t3_inx ha2, f4_inx ha2, t3_inx ha4, f4_inx ha4]
          exact okI.t rfl rfl rfl rfl
      · skip
        by_cases ha4 : (0 : Int) ≤ a4 ∧ a4 ≤ 19
        · skip
          simp only [T_X3_share, F_X4_share, F_X4_share_25, F_X4_share_55, F_X4_share_61, T_X3_share_94, T_X3_needEntry, T_X3_needTwoEntries, T_X3_needLive, T_X3_needBytes, F_X3_needEntry, F_X3_needTwoEntries, F_X3_needLive, F_X3_needBytes, F_X4_isRefused, F_X4_isRefusedNode, F_X4_isRefusedHandle, F_X4_isRefusedAt, F_X4_isRefusedUser, F_X4_isRefusedRow, F_X4_isRefusedBoth, F_X4_isName, xt_n, xt_s, xb1_s, xb2_s, xl_e, t3_pow, f3_pow, t3_node0, f3_node0, t3_open, f4_off, f4_ref, f4_node0, f4_open, mr12, t3_node ha1, f4_node ha1, t3_inx ha2, f4_inx ha2, t3_node ha3, f4_node ha3, t3_in ha4, f3_in ha4, f4_in ha4]
          exact okI.t rfl rfl rfl rfl
        · skip
          simp only [T_X3_share, F_X4_share, F_X4_share_25, F_X4_share_55, F_X4_share_61, T_X3_share_94, T_X3_needEntry, T_X3_needTwoEntries, T_X3_needLive, T_X3_needBytes, F_X3_needEntry, F_X3_needTwoEntries, F_X3_needLive, F_X3_needBytes, F_X4_isRefused, F_X4_isRefusedNode, F_X4_isRefusedHandle, F_X4_isRefusedAt, F_X4_isRefusedUser, F_X4_isRefusedRow, F_X4_isRefusedBoth, F_X4_isName, xt_n, xt_s, xb1_s, xb2_s, xl_e, t3_pow, f3_pow, t3_node0, f3_node0, t3_open, f4_off, f4_ref, f4_node0, f4_open, mr12, t3_node ha1, f4_node ha1, t3_inx ha2, f4_inx ha2, t3_node ha3, f4_node ha3, t3_inx ha4, f4_inx ha4]
          exact okI.t rfl rfl rfl rfl
set_option maxHeartbeats 1000000 in
set_option maxRecDepth 20000 in
theorem p_close (a1 : Int) : okI (F_X3_close M0 a1) (T_X3_close M0 a1) (F_X4_close MR a1) (fun E => if E = 1 then 1 else if E = 2 then 2 else 0) := by
  simp only [T_X3_close, F_X4_close, T_X3_needEntry, T_X3_needTwoEntries, T_X3_needLive, T_X3_needBytes, F_X3_needEntry, F_X3_needTwoEntries, F_X3_needLive, F_X3_needBytes, F_X4_isRefused, F_X4_isRefusedNode, F_X4_isRefusedHandle, F_X4_isRefusedAt, F_X4_isRefusedUser, F_X4_isRefusedRow, F_X4_isRefusedBoth, F_X4_isName, xt_n, xt_s, xb1_s, xb2_s, xl_e, t3_pow, f3_pow, t3_node0, f3_node0, t3_open, f4_off, f4_ref, f4_node0, f4_open, mr12]
  exact okI.t rfl rfl rfl rfl
set_option maxHeartbeats 1000000 in
set_option maxRecDepth 20000 in
theorem p_seek (a1 : Int) (a2 : Int) : okI (F_X3_seek M0 a1 a2) (T_X3_seek M0 a1 a2) (F_X4_seek MR a1 a2) (fun E => if E = 1 then 1 else if E = 2 then 2 else if E = 3 then 3 else 0) := by
  simp only [T_X3_seek, F_X4_seek, T_X3_needEntry, T_X3_needTwoEntries, T_X3_needLive, T_X3_needBytes, F_X3_needEntry, F_X3_needTwoEntries, F_X3_needLive, F_X3_needBytes, F_X4_isRefused, F_X4_isRefusedNode, F_X4_isRefusedHandle, F_X4_isRefusedAt, F_X4_isRefusedUser, F_X4_isRefusedRow, F_X4_isRefusedBoth, F_X4_isName, xt_n, xt_s, xb1_s, xb2_s, xl_e, t3_pow, f3_pow, t3_node0, f3_node0, t3_open, f4_off, f4_ref, f4_node0, f4_open, mr12]
  exact okI.t rfl rfl rfl rfl
set_option maxHeartbeats 1000000 in
set_option maxRecDepth 20000 in
theorem p_whoHinders (a1 : Int) (a2 : Int) (a3 : Int) (a4 : Int) : okP (F_X3_whoHinders M0 a1 a2 a3 a4) (T_X3_whoHinders M0 a1 a2 a3 a4) (F_X4_whoHinders MR a1 a2 a3 a4) (fun E => if E = 1 then 1 else if E = 2 then 2 else if E = 3 then 3 else 0) := by
  simp only [T_X3_whoHinders, F_X4_whoHinders, T_X3_needEntry, T_X3_needTwoEntries, T_X3_needLive, T_X3_needBytes, F_X3_needEntry, F_X3_needTwoEntries, F_X3_needLive, F_X3_needBytes, F_X4_isRefused, F_X4_isRefusedNode, F_X4_isRefusedHandle, F_X4_isRefusedAt, F_X4_isRefusedUser, F_X4_isRefusedRow, F_X4_isRefusedBoth, F_X4_isName, xt_n, xt_s, xb1_s, xb2_s, xl_e, t3_pow, f3_pow, t3_node0, f3_node0, t3_open, f4_off, f4_ref, f4_node0, f4_open, mr12]
  exact okP.t rfl rfl rfl rfl
set_option maxHeartbeats 1000000 in
set_option maxRecDepth 20000 in
theorem p_lockRows (a1 : Int) : okP (F_X3_lockRows M0 a1) (T_X3_lockRows M0 a1) (F_X4_lockRows MR a1) (fun E => if E = 1 then 1 else if E = 2 then 2 else 0) := by
  simp only [T_X3_lockRows, F_X4_lockRows, T_X3_needEntry, T_X3_needTwoEntries, T_X3_needLive, T_X3_needBytes, F_X3_needEntry, F_X3_needTwoEntries, F_X3_needLive, F_X3_needBytes, F_X4_isRefused, F_X4_isRefusedNode, F_X4_isRefusedHandle, F_X4_isRefusedAt, F_X4_isRefusedUser, F_X4_isRefusedRow, F_X4_isRefusedBoth, F_X4_isName, xt_n, xt_s, xb1_s, xb2_s, xl_e, t3_pow, f3_pow, t3_node0, f3_node0, t3_open, f4_off, f4_ref, f4_node0, f4_open, mr12]
  exact okP.t rfl rfl rfl rfl
set_option maxHeartbeats 1000000 in
set_option maxRecDepth 20000 in
theorem p_nodeOf (a1 : Int) : okP (F_X3_nodeOf M0 a1) (T_X3_nodeOf M0 a1) (F_X4_nodeOf MR a1) (fun E => if E = 1 then 1 else if E = 2 then 2 else 0) := by
  simp only [T_X3_nodeOf, F_X4_nodeOf, T_X3_needEntry, T_X3_needTwoEntries, T_X3_needLive, T_X3_needBytes, F_X3_needEntry, F_X3_needTwoEntries, F_X3_needLive, F_X3_needBytes, F_X4_isRefused, F_X4_isRefusedNode, F_X4_isRefusedHandle, F_X4_isRefusedAt, F_X4_isRefusedUser, F_X4_isRefusedRow, F_X4_isRefusedBoth, F_X4_isName, xt_n, xt_s, xb1_s, xb2_s, xl_e, t3_pow, f3_pow, t3_node0, f3_node0, t3_open, f4_off, f4_ref, f4_node0, f4_open, mr12]
  exact okP.t rfl rfl rfl rfl
set_option maxHeartbeats 1000000 in
set_option maxRecDepth 20000 in
theorem p_positionOf (a1 : Int) : okP (F_X3_positionOf M0 a1) (T_X3_positionOf M0 a1) (F_X4_positionOf MR a1) (fun E => if E = 1 then 1 else if E = 2 then 2 else 0) := by
  simp only [T_X3_positionOf, F_X4_positionOf, T_X3_needEntry, T_X3_needTwoEntries, T_X3_needLive, T_X3_needBytes, F_X3_needEntry, F_X3_needTwoEntries, F_X3_needLive, F_X3_needBytes, F_X4_isRefused, F_X4_isRefusedNode, F_X4_isRefusedHandle, F_X4_isRefusedAt, F_X4_isRefusedUser, F_X4_isRefusedRow, F_X4_isRefusedBoth, F_X4_isName, xt_n, xt_s, xb1_s, xb2_s, xl_e, t3_pow, f3_pow, t3_node0, f3_node0, t3_open, f4_off, f4_ref, f4_node0, f4_open, mr12]
  exact okP.t rfl rfl rfl rfl
set_option maxHeartbeats 1000000 in
set_option maxRecDepth 20000 in
theorem p_handles  : okP (F_X3_handles M0) (T_X3_handles M0) (F_X4_handles MR) (fun E => if E = 1 then 1 else 0) := by
  simp only [F_X3_handles, F_X4_handles, T_X3_needEntry, T_X3_needTwoEntries, T_X3_needLive, T_X3_needBytes, F_X3_needEntry, F_X3_needTwoEntries, F_X3_needLive, F_X3_needBytes, F_X4_isRefused, F_X4_isRefusedNode, F_X4_isRefusedHandle, F_X4_isRefusedAt, F_X4_isRefusedUser, F_X4_isRefusedRow, F_X4_isRefusedBoth, F_X4_isName, xt_n, xt_s, xb1_s, xb2_s, xl_e, t3_pow, f3_pow, t3_node0, f3_node0, t3_open, f4_off, f4_ref, f4_node0, f4_open, mr12]
  exact okP.n rfl rfl rfl
set_option maxHeartbeats 1000000 in
set_option maxRecDepth 20000 in
theorem p_sync  : okI (F_X3_sync M0) (T_X3_sync M0) (F_X4_sync MR) (fun E => if E = 1 then 1 else 0) := by
  simp only [F_X3_sync, F_X4_sync, T_X3_needEntry, T_X3_needTwoEntries, T_X3_needLive, T_X3_needBytes, F_X3_needEntry, F_X3_needTwoEntries, F_X3_needLive, F_X3_needBytes, F_X4_isRefused, F_X4_isRefusedNode, F_X4_isRefusedHandle, F_X4_isRefusedAt, F_X4_isRefusedUser, F_X4_isRefusedRow, F_X4_isRefusedBoth, F_X4_isName, xt_n, xt_s, xb1_s, xb2_s, xl_e, t3_pow, f3_pow, t3_node0, f3_node0, t3_open, f4_off, f4_ref, f4_node0, f4_open, mr12]
  exact okI.n rfl rfl rfl
set_option maxHeartbeats 1000000 in
set_option maxRecDepth 20000 in
theorem p_flush  : okI (F_X3_flush M0) (T_X3_flush M0) (F_X4_flush MR) (fun E => if E = 1 then 1 else 0) := by
  simp only [F_X3_flush, F_X4_flush, F_X4_flush_23, T_X3_needEntry, T_X3_needTwoEntries, T_X3_needLive, T_X3_needBytes, F_X3_needEntry, F_X3_needTwoEntries, F_X3_needLive, F_X3_needBytes, F_X4_isRefused, F_X4_isRefusedNode, F_X4_isRefusedHandle, F_X4_isRefusedAt, F_X4_isRefusedUser, F_X4_isRefusedRow, F_X4_isRefusedBoth, F_X4_isName, xt_n, xt_s, xb1_s, xb2_s, xl_e, t3_pow, f3_pow, t3_node0, f3_node0, t3_open, f4_off, f4_ref, f4_node0, f4_open, mr12]
  exact okI.n rfl rfl rfl
set_option maxHeartbeats 1000000 in
set_option maxRecDepth 20000 in
theorem p_mount  : okI (F_X3_mount M0) (T_X3_mount M0) (F_X4_mount MR) (fun E => if E = 1 then 1 else 0) := by
  simp only [T_X3_mount, F_X4_mount, F_X4_mount_13, T_X3_needEntry, T_X3_needTwoEntries, T_X3_needLive, T_X3_needBytes, F_X3_needEntry, F_X3_needTwoEntries, F_X3_needLive, F_X3_needBytes, F_X4_isRefused, F_X4_isRefusedNode, F_X4_isRefusedHandle, F_X4_isRefusedAt, F_X4_isRefusedUser, F_X4_isRefusedRow, F_X4_isRefusedBoth, F_X4_isName, xt_n, xt_s, xb1_s, xb2_s, xl_e, t3_pow, f3_pow, t3_node0, f3_node0, t3_open, f4_off, f4_ref, f4_node0, f4_open, mr12]
  exact okI.t rfl rfl rfl rfl
set_option maxHeartbeats 1000000 in
set_option maxRecDepth 20000 in
theorem p_waiting  : okP (F_X3_waiting M0) (T_X3_waiting M0) (F_X4_waiting MR) (fun E => if E = 1 then 1 else 0) := by
  simp only [F_X3_waiting, F_X4_waiting, T_X3_needEntry, T_X3_needTwoEntries, T_X3_needLive, T_X3_needBytes, F_X3_needEntry, F_X3_needTwoEntries, F_X3_needLive, F_X3_needBytes, F_X4_isRefused, F_X4_isRefusedNode, F_X4_isRefusedHandle, F_X4_isRefusedAt, F_X4_isRefusedUser, F_X4_isRefusedRow, F_X4_isRefusedBoth, F_X4_isName, xt_n, xt_s, xb1_s, xb2_s, xl_e, t3_pow, f3_pow, t3_node0, f3_node0, t3_open, f4_off, f4_ref, f4_node0, f4_open, mr12]
  exact okP.n rfl rfl rfl
set_option maxHeartbeats 1000000 in
set_option maxRecDepth 20000 in
theorem p_changes  : okP (F_X3_changes M0) (T_X3_changes M0) (F_X4_changes MR) (fun E => if E = 1 then 1 else 0) := by
  simp only [F_X3_changes, F_X4_changes, T_X3_needEntry, T_X3_needTwoEntries, T_X3_needLive, T_X3_needBytes, F_X3_needEntry, F_X3_needTwoEntries, F_X3_needLive, F_X3_needBytes, F_X4_isRefused, F_X4_isRefusedNode, F_X4_isRefusedHandle, F_X4_isRefusedAt, F_X4_isRefusedUser, F_X4_isRefusedRow, F_X4_isRefusedBoth, F_X4_isName, xt_n, xt_s, xb1_s, xb2_s, xl_e, t3_pow, f3_pow, t3_node0, f3_node0, t3_open, f4_off, f4_ref, f4_node0, f4_open, mr12]
  exact okP.n rfl rfl rfl
set_option maxHeartbeats 1000000 in
set_option maxRecDepth 20000 in
theorem p_nodes  : okP (F_X3_nodes M0) (T_X3_nodes M0) (F_X4_nodes MR) (fun E => if E = 1 then 1 else 0) := by
  simp only [F_X3_nodes, F_X4_nodes, T_X3_needEntry, T_X3_needTwoEntries, T_X3_needLive, T_X3_needBytes, F_X3_needEntry, F_X3_needTwoEntries, F_X3_needLive, F_X3_needBytes, F_X4_isRefused, F_X4_isRefusedNode, F_X4_isRefusedHandle, F_X4_isRefusedAt, F_X4_isRefusedUser, F_X4_isRefusedRow, F_X4_isRefusedBoth, F_X4_isName, xt_n, xt_s, xb1_s, xb2_s, xl_e, t3_pow, f3_pow, t3_node0, f3_node0, t3_open, f4_off, f4_ref, f4_node0, f4_open, mr12]
  exact okP.n rfl rfl rfl
set_option maxHeartbeats 1000000 in
set_option maxRecDepth 20000 in
theorem p_linksOf (a1 : Int) : okP (F_X3_linksOf M0 a1) (T_X3_linksOf M0 a1) (F_X4_linksOf MR a1) (fun E => if E = 1 then 1 else if E = 2 then 2 else 0) := by
  by_cases ha1 : a1 = 0
  · subst ha1
    simp only [F_X3_linksOf, F_X4_linksOf, T_X3_needEntry, T_X3_needTwoEntries, T_X3_needLive, T_X3_needBytes, F_X3_needEntry, F_X3_needTwoEntries, F_X3_needLive, F_X3_needBytes, F_X4_isRefused, F_X4_isRefusedNode, F_X4_isRefusedHandle, F_X4_isRefusedAt, F_X4_isRefusedUser, F_X4_isRefusedRow, F_X4_isRefusedBoth, F_X4_isName, xt_n, xt_s, xb1_s, xb2_s, xl_e, t3_pow, f3_pow, t3_node0, f3_node0, t3_open, f4_off, f4_ref, f4_node0, f4_open, mr12]
    exact okP.n rfl rfl rfl
  · skip
    simp only [T_X3_linksOf, F_X4_linksOf, T_X3_needEntry, T_X3_needTwoEntries, T_X3_needLive, T_X3_needBytes, F_X3_needEntry, F_X3_needTwoEntries, F_X3_needLive, F_X3_needBytes, F_X4_isRefused, F_X4_isRefusedNode, F_X4_isRefusedHandle, F_X4_isRefusedAt, F_X4_isRefusedUser, F_X4_isRefusedRow, F_X4_isRefusedBoth, F_X4_isName, xt_n, xt_s, xb1_s, xb2_s, xl_e, t3_pow, f3_pow, t3_node0, f3_node0, t3_open, f4_off, f4_ref, f4_node0, f4_open, mr12, t3_node ha1, f4_node ha1]
    exact okP.t rfl rfl rfl rfl
set_option maxHeartbeats 1000000 in
set_option maxRecDepth 20000 in
theorem p_ownerOf (a1 : Int) : okP (F_X3_ownerOf M0 a1) (T_X3_ownerOf M0 a1) (F_X4_ownerOf MR a1) (fun E => if E = 1 then 1 else if E = 2 then 2 else 0) := by
  by_cases ha1 : a1 = 0
  · subst ha1
    simp only [F_X3_ownerOf, F_X4_ownerOf, T_X3_needEntry, T_X3_needTwoEntries, T_X3_needLive, T_X3_needBytes, F_X3_needEntry, F_X3_needTwoEntries, F_X3_needLive, F_X3_needBytes, F_X4_isRefused, F_X4_isRefusedNode, F_X4_isRefusedHandle, F_X4_isRefusedAt, F_X4_isRefusedUser, F_X4_isRefusedRow, F_X4_isRefusedBoth, F_X4_isName, xt_n, xt_s, xb1_s, xb2_s, xl_e, t3_pow, f3_pow, t3_node0, f3_node0, t3_open, f4_off, f4_ref, f4_node0, f4_open, mr12]
    exact okP.n rfl rfl rfl
  · skip
    simp only [T_X3_ownerOf, F_X4_ownerOf, T_X3_needEntry, T_X3_needTwoEntries, T_X3_needLive, T_X3_needBytes, F_X3_needEntry, F_X3_needTwoEntries, F_X3_needLive, F_X3_needBytes, F_X4_isRefused, F_X4_isRefusedNode, F_X4_isRefusedHandle, F_X4_isRefusedAt, F_X4_isRefusedUser, F_X4_isRefusedRow, F_X4_isRefusedBoth, F_X4_isName, xt_n, xt_s, xb1_s, xb2_s, xl_e, t3_pow, f3_pow, t3_node0, f3_node0, t3_open, f4_off, f4_ref, f4_node0, f4_open, mr12, t3_node ha1, f4_node ha1]
    exact okP.t rfl rfl rfl rfl
set_option maxHeartbeats 1000000 in
set_option maxRecDepth 20000 in
theorem p_sizeOf (a1 : Int) : okP (F_X3_sizeOf M0 a1) (T_X3_sizeOf M0 a1) (F_X4_sizeOf MR a1) (fun E => if E = 1 then 1 else if E = 2 then 2 else 0) := by
  by_cases ha1 : a1 = 0
  · subst ha1
    simp only [F_X3_sizeOf, F_X4_sizeOf, T_X3_needEntry, T_X3_needTwoEntries, T_X3_needLive, T_X3_needBytes, F_X3_needEntry, F_X3_needTwoEntries, F_X3_needLive, F_X3_needBytes, F_X4_isRefused, F_X4_isRefusedNode, F_X4_isRefusedHandle, F_X4_isRefusedAt, F_X4_isRefusedUser, F_X4_isRefusedRow, F_X4_isRefusedBoth, F_X4_isName, xt_n, xt_s, xb1_s, xb2_s, xl_e, t3_pow, f3_pow, t3_node0, f3_node0, t3_open, f4_off, f4_ref, f4_node0, f4_open, mr12]
    exact okP.n rfl rfl rfl
  · skip
    simp only [T_X3_sizeOf, F_X4_sizeOf, T_X3_needEntry, T_X3_needTwoEntries, T_X3_needLive, T_X3_needBytes, F_X3_needEntry, F_X3_needTwoEntries, F_X3_needLive, F_X3_needBytes, F_X4_isRefused, F_X4_isRefusedNode, F_X4_isRefusedHandle, F_X4_isRefusedAt, F_X4_isRefusedUser, F_X4_isRefusedRow, F_X4_isRefusedBoth, F_X4_isName, xt_n, xt_s, xb1_s, xb2_s, xl_e, t3_pow, f3_pow, t3_node0, f3_node0, t3_open, f4_off, f4_ref, f4_node0, f4_open, mr12, t3_node ha1, f4_node ha1]
    exact okP.t rfl rfl rfl rfl
set_option maxHeartbeats 1000000 in
set_option maxRecDepth 20000 in
theorem p_blocksOf (a1 : Int) : okP (F_X3_blocksOf M0 a1) (T_X3_blocksOf M0 a1) (F_X4_blocksOf MR a1) (fun E => if E = 1 then 1 else if E = 2 then 2 else 0) := by
  by_cases ha1 : a1 = 0
  · subst ha1
    simp only [F_X3_blocksOf, F_X4_blocksOf, T_X3_needEntry, T_X3_needTwoEntries, T_X3_needLive, T_X3_needBytes, F_X3_needEntry, F_X3_needTwoEntries, F_X3_needLive, F_X3_needBytes, F_X4_isRefused, F_X4_isRefusedNode, F_X4_isRefusedHandle, F_X4_isRefusedAt, F_X4_isRefusedUser, F_X4_isRefusedRow, F_X4_isRefusedBoth, F_X4_isName, xt_n, xt_s, xb1_s, xb2_s, xl_e, t3_pow, f3_pow, t3_node0, f3_node0, t3_open, f4_off, f4_ref, f4_node0, f4_open, mr12]
    exact okP.n rfl rfl rfl
  · skip
    simp only [T_X3_blocksOf, F_X4_blocksOf, T_X3_needEntry, T_X3_needTwoEntries, T_X3_needLive, T_X3_needBytes, F_X3_needEntry, F_X3_needTwoEntries, F_X3_needLive, F_X3_needBytes, F_X4_isRefused, F_X4_isRefusedNode, F_X4_isRefusedHandle, F_X4_isRefusedAt, F_X4_isRefusedUser, F_X4_isRefusedRow, F_X4_isRefusedBoth, F_X4_isName, xt_n, xt_s, xb1_s, xb2_s, xl_e, t3_pow, f3_pow, t3_node0, f3_node0, t3_open, f4_off, f4_ref, f4_node0, f4_open, mr12, t3_node ha1, f4_node ha1]
    exact okP.t rfl rfl rfl rfl
set_option maxHeartbeats 1000000 in
set_option maxRecDepth 20000 in
theorem p_sharedOf (a1 : Int) : okP (F_X3_sharedOf M0 a1) (T_X3_sharedOf M0 a1) (F_X4_sharedOf MR a1) (fun E => if E = 1 then 1 else if E = 2 then 2 else 0) := by
  by_cases ha1 : a1 = 0
  · subst ha1
    simp only [F_X3_sharedOf, F_X4_sharedOf, T_X3_needEntry, T_X3_needTwoEntries, T_X3_needLive, T_X3_needBytes, F_X3_needEntry, F_X3_needTwoEntries, F_X3_needLive, F_X3_needBytes, F_X4_isRefused, F_X4_isRefusedNode, F_X4_isRefusedHandle, F_X4_isRefusedAt, F_X4_isRefusedUser, F_X4_isRefusedRow, F_X4_isRefusedBoth, F_X4_isName, xt_n, xt_s, xb1_s, xb2_s, xl_e, t3_pow, f3_pow, t3_node0, f3_node0, t3_open, f4_off, f4_ref, f4_node0, f4_open, mr12]
    exact okP.n rfl rfl rfl
  · skip
    simp only [T_X3_sharedOf, F_X4_sharedOf, T_X3_needEntry, T_X3_needTwoEntries, T_X3_needLive, T_X3_needBytes, F_X3_needEntry, F_X3_needTwoEntries, F_X3_needLive, F_X3_needBytes, F_X4_isRefused, F_X4_isRefusedNode, F_X4_isRefusedHandle, F_X4_isRefusedAt, F_X4_isRefusedUser, F_X4_isRefusedRow, F_X4_isRefusedBoth, F_X4_isName, xt_n, xt_s, xb1_s, xb2_s, xl_e, t3_pow, f3_pow, t3_node0, f3_node0, t3_open, f4_off, f4_ref, f4_node0, f4_open, mr12, t3_node ha1, f4_node ha1]
    exact okP.t rfl rfl rfl rfl
set_option maxHeartbeats 1000000 in
set_option maxRecDepth 20000 in
theorem p_isHole (a1 : Int) (a2 : Int) : okP (F_X3_isHole M0 a1 a2) (T_X3_isHole M0 a1 a2) (F_X4_isHole MR a1 a2) (fun E => if E = 1 then 1 else if E = 2 then 2 else if E = 3 then 3 else 0) := by
  by_cases ha1 : a1 = 0
  · subst ha1
    by_cases ha2 : (0 : Int) ≤ a2 ∧ a2 ≤ 19
    · skip
      simp only [F_X3_isHole, F_X4_isHole, T_X3_needEntry, T_X3_needTwoEntries, T_X3_needLive, T_X3_needBytes, F_X3_needEntry, F_X3_needTwoEntries, F_X3_needLive, F_X3_needBytes, F_X4_isRefused, F_X4_isRefusedNode, F_X4_isRefusedHandle, F_X4_isRefusedAt, F_X4_isRefusedUser, F_X4_isRefusedRow, F_X4_isRefusedBoth, F_X4_isName, xt_n, xt_s, xb1_s, xb2_s, xl_e, t3_pow, f3_pow, t3_node0, f3_node0, t3_open, f4_off, f4_ref, f4_node0, f4_open, mr12, t3_in ha2, f3_in ha2, f4_in ha2]
      exact okP.n rfl rfl rfl
    · skip
      simp only [T_X3_isHole, F_X4_isHole, T_X3_needEntry, T_X3_needTwoEntries, T_X3_needLive, T_X3_needBytes, F_X3_needEntry, F_X3_needTwoEntries, F_X3_needLive, F_X3_needBytes, F_X4_isRefused, F_X4_isRefusedNode, F_X4_isRefusedHandle, F_X4_isRefusedAt, F_X4_isRefusedUser, F_X4_isRefusedRow, F_X4_isRefusedBoth, F_X4_isName, xt_n, xt_s, xb1_s, xb2_s, xl_e, t3_pow, f3_pow, t3_node0, f3_node0, t3_open, f4_off, f4_ref, f4_node0, f4_open, mr12, t3_inx ha2, f4_inx ha2]
      exact okP.t rfl rfl rfl rfl
  · skip
    by_cases ha2 : (0 : Int) ≤ a2 ∧ a2 ≤ 19
    · skip
      simp only [T_X3_isHole, F_X4_isHole, T_X3_needEntry, T_X3_needTwoEntries, T_X3_needLive, T_X3_needBytes, F_X3_needEntry, F_X3_needTwoEntries, F_X3_needLive, F_X3_needBytes, F_X4_isRefused, F_X4_isRefusedNode, F_X4_isRefusedHandle, F_X4_isRefusedAt, F_X4_isRefusedUser, F_X4_isRefusedRow, F_X4_isRefusedBoth, F_X4_isName, xt_n, xt_s, xb1_s, xb2_s, xl_e, t3_pow, f3_pow, t3_node0, f3_node0, t3_open, f4_off, f4_ref, f4_node0, f4_open, mr12, t3_node ha1, f4_node ha1, t3_in ha2, f3_in ha2, f4_in ha2]
      exact okP.t rfl rfl rfl rfl
    · skip
      simp only [T_X3_isHole, F_X4_isHole, T_X3_needEntry, T_X3_needTwoEntries, T_X3_needLive, T_X3_needBytes, F_X3_needEntry, F_X3_needTwoEntries, F_X3_needLive, F_X3_needBytes, F_X4_isRefused, F_X4_isRefusedNode, F_X4_isRefusedHandle, F_X4_isRefusedAt, F_X4_isRefusedUser, F_X4_isRefusedRow, F_X4_isRefusedBoth, F_X4_isName, xt_n, xt_s, xb1_s, xb2_s, xl_e, t3_pow, f3_pow, t3_node0, f3_node0, t3_open, f4_off, f4_ref, f4_node0, f4_open, mr12, t3_node ha1, f4_node ha1, t3_inx ha2, f4_inx ha2]
      exact okP.t rfl rfl rfl rfl
set_option maxHeartbeats 1000000 in
set_option maxRecDepth 20000 in
theorem p_lookup (a1 : Int) (a2 : Int) : okP (F_X3_lookup M0 a1 a2) (T_X3_lookup M0 a1 a2) (F_X4_lookup MR a1 a2) (fun E => if E = 1 then 1 else if E = 2 then 2 else if E = 3 then 3 else 0) := by
  by_cases ha1 : a1 = 0
  · subst ha1
    by_cases ha2 : (1 : Int) ≤ a2 ∧ a2 ≤ 99
    · skip
      simp only [F_X3_lookup, F_X4_lookup, T_X3_needEntry, T_X3_needTwoEntries, T_X3_needLive, T_X3_needBytes, F_X3_needEntry, F_X3_needTwoEntries, F_X3_needLive, F_X3_needBytes, F_X4_isRefused, F_X4_isRefusedNode, F_X4_isRefusedHandle, F_X4_isRefusedAt, F_X4_isRefusedUser, F_X4_isRefusedRow, F_X4_isRefusedBoth, F_X4_isName, xt_n, xt_s, xb1_s, xb2_s, xl_e, t3_pow, f3_pow, t3_node0, f3_node0, t3_open, f4_off, f4_ref, f4_node0, f4_open, mr12, t3_in ha2, f3_in ha2, f4_in ha2]
      exact okP.n rfl rfl rfl
    · skip
      simp only [T_X3_lookup, F_X4_lookup, T_X3_needEntry, T_X3_needTwoEntries, T_X3_needLive, T_X3_needBytes, F_X3_needEntry, F_X3_needTwoEntries, F_X3_needLive, F_X3_needBytes, F_X4_isRefused, F_X4_isRefusedNode, F_X4_isRefusedHandle, F_X4_isRefusedAt, F_X4_isRefusedUser, F_X4_isRefusedRow, F_X4_isRefusedBoth, F_X4_isName, xt_n, xt_s, xb1_s, xb2_s, xl_e, t3_pow, f3_pow, t3_node0, f3_node0, t3_open, f4_off, f4_ref, f4_node0, f4_open, mr12, t3_inx ha2, f4_inx ha2]
      exact okP.t rfl rfl rfl rfl
  · skip
    by_cases ha2 : (1 : Int) ≤ a2 ∧ a2 ≤ 99
    · skip
      simp only [T_X3_lookup, F_X4_lookup, T_X3_needEntry, T_X3_needTwoEntries, T_X3_needLive, T_X3_needBytes, F_X3_needEntry, F_X3_needTwoEntries, F_X3_needLive, F_X3_needBytes, F_X4_isRefused, F_X4_isRefusedNode, F_X4_isRefusedHandle, F_X4_isRefusedAt, F_X4_isRefusedUser, F_X4_isRefusedRow, F_X4_isRefusedBoth, F_X4_isName, xt_n, xt_s, xb1_s, xb2_s, xl_e, t3_pow, f3_pow, t3_node0, f3_node0, t3_open, f4_off, f4_ref, f4_node0, f4_open, mr12, t3_node ha1, f4_node ha1, t3_in ha2, f3_in ha2, f4_in ha2]
      exact okP.t rfl rfl rfl rfl
    · skip
      simp only [T_X3_lookup, F_X4_lookup, T_X3_needEntry, T_X3_needTwoEntries, T_X3_needLive, T_X3_needBytes, F_X3_needEntry, F_X3_needTwoEntries, F_X3_needLive, F_X3_needBytes, F_X4_isRefused, F_X4_isRefusedNode, F_X4_isRefusedHandle, F_X4_isRefusedAt, F_X4_isRefusedUser, F_X4_isRefusedRow, F_X4_isRefusedBoth, F_X4_isName, xt_n, xt_s, xb1_s, xb2_s, xl_e, t3_pow, f3_pow, t3_node0, f3_node0, t3_open, f4_off, f4_ref, f4_node0, f4_open, mr12, t3_node ha1, f4_node ha1, t3_inx ha2, f4_inx ha2]
      exact okP.t rfl rfl rfl rfl
set_option maxHeartbeats 1000000 in
set_option maxRecDepth 20000 in
theorem p_follow (a1 : Int) (a2 : Int) : okI (F_X3_follow M0 a1 a2) (T_X3_follow M0 a1 a2) (F_X4_follow MR a1 a2) (fun E => if E = 1 then 1 else if E = 2 then 2 else if E = 3 then 3 else 0) := by
  by_cases ha1 : a1 = 0
  · subst ha1
    by_cases ha2 : (1 : Int) ≤ a2 ∧ a2 ≤ 99
    · skip
      simp only [F_X3_follow, F_X4_follow, T_X3_needEntry, T_X3_needTwoEntries, T_X3_needLive, T_X3_needBytes, F_X3_needEntry, F_X3_needTwoEntries, F_X3_needLive, F_X3_needBytes, F_X4_isRefused, F_X4_isRefusedNode, F_X4_isRefusedHandle, F_X4_isRefusedAt, F_X4_isRefusedUser, F_X4_isRefusedRow, F_X4_isRefusedBoth, F_X4_isName, xt_n, xt_s, xb1_s, xb2_s, xl_e, t3_pow, f3_pow, t3_node0, f3_node0, t3_open, f4_off, f4_ref, f4_node0, f4_open, mr12, t3_in ha2, f3_in ha2, f4_in ha2]
      exact okI.n rfl rfl rfl
    · skip
      simp only [T_X3_follow, F_X4_follow, T_X3_needEntry, T_X3_needTwoEntries, T_X3_needLive, T_X3_needBytes, F_X3_needEntry, F_X3_needTwoEntries, F_X3_needLive, F_X3_needBytes, F_X4_isRefused, F_X4_isRefusedNode, F_X4_isRefusedHandle, F_X4_isRefusedAt, F_X4_isRefusedUser, F_X4_isRefusedRow, F_X4_isRefusedBoth, F_X4_isName, xt_n, xt_s, xb1_s, xb2_s, xl_e, t3_pow, f3_pow, t3_node0, f3_node0, t3_open, f4_off, f4_ref, f4_node0, f4_open, mr12, t3_inx ha2, f4_inx ha2]
      exact okI.t rfl rfl rfl rfl
  · skip
    by_cases ha2 : (1 : Int) ≤ a2 ∧ a2 ≤ 99
    · skip
      simp only [T_X3_follow, F_X4_follow, T_X3_needEntry, T_X3_needTwoEntries, T_X3_needLive, T_X3_needBytes, F_X3_needEntry, F_X3_needTwoEntries, F_X3_needLive, F_X3_needBytes, F_X4_isRefused, F_X4_isRefusedNode, F_X4_isRefusedHandle, F_X4_isRefusedAt, F_X4_isRefusedUser, F_X4_isRefusedRow, F_X4_isRefusedBoth, F_X4_isName, xt_n, xt_s, xb1_s, xb2_s, xl_e, t3_pow, f3_pow, t3_node0, f3_node0, t3_open, f4_off, f4_ref, f4_node0, f4_open, mr12, t3_node ha1, f4_node ha1, t3_in ha2, f3_in ha2, f4_in ha2]
      exact okI.t rfl rfl rfl rfl
    · skip
      simp only [T_X3_follow, F_X4_follow, T_X3_needEntry, T_X3_needTwoEntries, T_X3_needLive, T_X3_needBytes, F_X3_needEntry, F_X3_needTwoEntries, F_X3_needLive, F_X3_needBytes, F_X4_isRefused, F_X4_isRefusedNode, F_X4_isRefusedHandle, F_X4_isRefusedAt, F_X4_isRefusedUser, F_X4_isRefusedRow, F_X4_isRefusedBoth, F_X4_isName, xt_n, xt_s, xb1_s, xb2_s, xl_e, t3_pow, f3_pow, t3_node0, f3_node0, t3_open, f4_off, f4_ref, f4_node0, f4_open, mr12, t3_node ha1, f4_node ha1, t3_inx ha2, f4_inx ha2]
      exact okI.t rfl rfl rfl rfl
set_option maxHeartbeats 1000000 in
set_option maxRecDepth 20000 in
theorem p_parentOf (a1 : Int) : okP (F_X3_parentOf M0 a1) (T_X3_parentOf M0 a1) (F_X4_parentOf MR a1) (fun E => if E = 1 then 1 else if E = 2 then 2 else 0) := by
  by_cases ha1 : a1 = 0
  · subst ha1
    simp only [F_X3_parentOf, F_X4_parentOf, T_X3_needEntry, T_X3_needTwoEntries, T_X3_needLive, T_X3_needBytes, F_X3_needEntry, F_X3_needTwoEntries, F_X3_needLive, F_X3_needBytes, F_X4_isRefused, F_X4_isRefusedNode, F_X4_isRefusedHandle, F_X4_isRefusedAt, F_X4_isRefusedUser, F_X4_isRefusedRow, F_X4_isRefusedBoth, F_X4_isName, xt_n, xt_s, xb1_s, xb2_s, xl_e, t3_pow, f3_pow, t3_node0, f3_node0, t3_open, f4_off, f4_ref, f4_node0, f4_open, mr12]
    exact okP.n rfl rfl rfl
  · skip
    simp only [T_X3_parentOf, F_X4_parentOf, T_X3_needEntry, T_X3_needTwoEntries, T_X3_needLive, T_X3_needBytes, F_X3_needEntry, F_X3_needTwoEntries, F_X3_needLive, F_X3_needBytes, F_X4_isRefused, F_X4_isRefusedNode, F_X4_isRefusedHandle, F_X4_isRefusedAt, F_X4_isRefusedUser, F_X4_isRefusedRow, F_X4_isRefusedBoth, F_X4_isName, xt_n, xt_s, xb1_s, xb2_s, xl_e, t3_pow, f3_pow, t3_node0, f3_node0, t3_open, f4_off, f4_ref, f4_node0, f4_open, mr12, t3_node ha1, f4_node ha1]
    exact okP.t rfl rfl rfl rfl
set_option maxHeartbeats 1000000 in
set_option maxRecDepth 20000 in
theorem p_depthOf (a1 : Int) : okP (F_X3_depthOf M0 a1) (T_X3_depthOf M0 a1) (F_X4_depthOf MR a1) (fun E => if E = 1 then 1 else if E = 2 then 2 else 0) := by
  by_cases ha1 : a1 = 0
  · subst ha1
    simp only [F_X3_depthOf, F_X4_depthOf, T_X3_needEntry, T_X3_needTwoEntries, T_X3_needLive, T_X3_needBytes, F_X3_needEntry, F_X3_needTwoEntries, F_X3_needLive, F_X3_needBytes, F_X4_isRefused, F_X4_isRefusedNode, F_X4_isRefusedHandle, F_X4_isRefusedAt, F_X4_isRefusedUser, F_X4_isRefusedRow, F_X4_isRefusedBoth, F_X4_isName, xt_n, xt_s, xb1_s, xb2_s, xl_e, t3_pow, f3_pow, t3_node0, f3_node0, t3_open, f4_off, f4_ref, f4_node0, f4_open, mr12]
    exact okP.n rfl rfl rfl
  · skip
    simp only [T_X3_depthOf, F_X4_depthOf, T_X3_needEntry, T_X3_needTwoEntries, T_X3_needLive, T_X3_needBytes, F_X3_needEntry, F_X3_needTwoEntries, F_X3_needLive, F_X3_needBytes, F_X4_isRefused, F_X4_isRefusedNode, F_X4_isRefusedHandle, F_X4_isRefusedAt, F_X4_isRefusedUser, F_X4_isRefusedRow, F_X4_isRefusedBoth, F_X4_isName, xt_n, xt_s, xb1_s, xb2_s, xl_e, t3_pow, f3_pow, t3_node0, f3_node0, t3_open, f4_off, f4_ref, f4_node0, f4_open, mr12, t3_node ha1, f4_node ha1]
    exact okP.t rfl rfl rfl rfl
set_option maxHeartbeats 1000000 in
set_option maxRecDepth 20000 in
theorem p_isOrphan (a1 : Int) : okP (F_X3_isOrphan M0 a1) (T_X3_isOrphan M0 a1) (F_X4_isOrphan MR a1) (fun E => if E = 1 then 1 else if E = 2 then 2 else 0) := by
  by_cases ha1 : a1 = 0
  · subst ha1
    simp only [F_X3_isOrphan, F_X4_isOrphan, T_X3_needEntry, T_X3_needTwoEntries, T_X3_needLive, T_X3_needBytes, F_X3_needEntry, F_X3_needTwoEntries, F_X3_needLive, F_X3_needBytes, F_X4_isRefused, F_X4_isRefusedNode, F_X4_isRefusedHandle, F_X4_isRefusedAt, F_X4_isRefusedUser, F_X4_isRefusedRow, F_X4_isRefusedBoth, F_X4_isName, xt_n, xt_s, xb1_s, xb2_s, xl_e, t3_pow, f3_pow, t3_node0, f3_node0, t3_open, f4_off, f4_ref, f4_node0, f4_open, mr12]
    exact okP.n rfl rfl rfl
  · skip
    simp only [T_X3_isOrphan, F_X4_isOrphan, T_X3_needEntry, T_X3_needTwoEntries, T_X3_needLive, T_X3_needBytes, F_X3_needEntry, F_X3_needTwoEntries, F_X3_needLive, F_X3_needBytes, F_X4_isRefused, F_X4_isRefusedNode, F_X4_isRefusedHandle, F_X4_isRefusedAt, F_X4_isRefusedUser, F_X4_isRefusedRow, F_X4_isRefusedBoth, F_X4_isName, xt_n, xt_s, xb1_s, xb2_s, xl_e, t3_pow, f3_pow, t3_node0, f3_node0, t3_open, f4_off, f4_ref, f4_node0, f4_open, mr12, t3_node ha1, f4_node ha1]
    exact okP.t rfl rfl rfl rfl
set_option maxHeartbeats 1000000 in
set_option maxRecDepth 20000 in
theorem p_blocksUnder (a1 : Int) : okI (F_X3_blocksUnder M0 a1) (T_X3_blocksUnder M0 a1) (F_X4_blocksUnder MR a1) (fun E => if E = 1 then 1 else if E = 2 then 2 else 0) := by
  by_cases ha1 : a1 = 0
  · subst ha1
    simp only [F_X3_blocksUnder, F_X4_blocksUnder, T_X3_needEntry, T_X3_needTwoEntries, T_X3_needLive, T_X3_needBytes, F_X3_needEntry, F_X3_needTwoEntries, F_X3_needLive, F_X3_needBytes, F_X4_isRefused, F_X4_isRefusedNode, F_X4_isRefusedHandle, F_X4_isRefusedAt, F_X4_isRefusedUser, F_X4_isRefusedRow, F_X4_isRefusedBoth, F_X4_isName, xt_n, xt_s, xb1_s, xb2_s, xl_e, t3_pow, f3_pow, t3_node0, f3_node0, t3_open, f4_off, f4_ref, f4_node0, f4_open, mr12]
    exact okI.n rfl rfl rfl
  · skip
    simp only [T_X3_blocksUnder, F_X4_blocksUnder, T_X3_needEntry, T_X3_needTwoEntries, T_X3_needLive, T_X3_needBytes, F_X3_needEntry, F_X3_needTwoEntries, F_X3_needLive, F_X3_needBytes, F_X4_isRefused, F_X4_isRefusedNode, F_X4_isRefusedHandle, F_X4_isRefusedAt, F_X4_isRefusedUser, F_X4_isRefusedRow, F_X4_isRefusedBoth, F_X4_isName, xt_n, xt_s, xb1_s, xb2_s, xl_e, t3_pow, f3_pow, t3_node0, f3_node0, t3_open, f4_off, f4_ref, f4_node0, f4_open, mr12, t3_node ha1, f4_node ha1]
    exact okI.t rfl rfl rfl rfl
set_option maxHeartbeats 1000000 in
set_option maxRecDepth 20000 in
theorem p_wouldFree (a1 : Int) : okI (F_X3_wouldFree M0 a1) (T_X3_wouldFree M0 a1) (F_X4_wouldFree MR a1) (fun E => if E = 1 then 1 else if E = 2 then 2 else 0) := by
  by_cases ha1 : a1 = 0
  · subst ha1
    simp only [F_X3_wouldFree, F_X4_wouldFree, T_X3_needEntry, T_X3_needTwoEntries, T_X3_needLive, T_X3_needBytes, F_X3_needEntry, F_X3_needTwoEntries, F_X3_needLive, F_X3_needBytes, F_X4_isRefused, F_X4_isRefusedNode, F_X4_isRefusedHandle, F_X4_isRefusedAt, F_X4_isRefusedUser, F_X4_isRefusedRow, F_X4_isRefusedBoth, F_X4_isName, xt_n, xt_s, xb1_s, xb2_s, xl_e, t3_pow, f3_pow, t3_node0, f3_node0, t3_open, f4_off, f4_ref, f4_node0, f4_open, mr12]
    exact okI.n rfl rfl rfl
  · skip
    simp only [T_X3_wouldFree, F_X4_wouldFree, T_X3_needEntry, T_X3_needTwoEntries, T_X3_needLive, T_X3_needBytes, F_X3_needEntry, F_X3_needTwoEntries, F_X3_needLive, F_X3_needBytes, F_X4_isRefused, F_X4_isRefusedNode, F_X4_isRefusedHandle, F_X4_isRefusedAt, F_X4_isRefusedUser, F_X4_isRefusedRow, F_X4_isRefusedBoth, F_X4_isName, xt_n, xt_s, xb1_s, xb2_s, xl_e, t3_pow, f3_pow, t3_node0, f3_node0, t3_open, f4_off, f4_ref, f4_node0, f4_open, mr12, t3_node ha1, f4_node ha1]
    exact okI.t rfl rfl rfl rfl
set_option maxHeartbeats 1000000 in
set_option maxRecDepth 20000 in
theorem p_used  : okP (F_X3_used M0) (T_X3_used M0) (F_X4_used_ MR) (fun E => if E = 1 then 1 else 0) := by
  simp only [F_X3_used, F_X4_used_, T_X3_needEntry, T_X3_needTwoEntries, T_X3_needLive, T_X3_needBytes, F_X3_needEntry, F_X3_needTwoEntries, F_X3_needLive, F_X3_needBytes, F_X4_isRefused, F_X4_isRefusedNode, F_X4_isRefusedHandle, F_X4_isRefusedAt, F_X4_isRefusedUser, F_X4_isRefusedRow, F_X4_isRefusedBoth, F_X4_isName, xt_n, xt_s, xb1_s, xb2_s, xl_e, t3_pow, f3_pow, t3_node0, f3_node0, t3_open, f4_off, f4_ref, f4_node0, f4_open, mr12]
  exact okP.n rfl rfl rfl
set_option maxHeartbeats 1000000 in
set_option maxRecDepth 20000 in
theorem p_greatestFile  : okP (F_X3_greatestFile M0) (T_X3_greatestFile M0) (F_X4_greatestFile MR) (fun E => if E = 1 then 1 else 0) := by
  simp only [F_X3_greatestFile, F_X4_greatestFile, T_X3_needEntry, T_X3_needTwoEntries, T_X3_needLive, T_X3_needBytes, F_X3_needEntry, F_X3_needTwoEntries, F_X3_needLive, F_X3_needBytes, F_X4_isRefused, F_X4_isRefusedNode, F_X4_isRefusedHandle, F_X4_isRefusedAt, F_X4_isRefusedUser, F_X4_isRefusedRow, F_X4_isRefusedBoth, F_X4_isName, xt_n, xt_s, xb1_s, xb2_s, xl_e, t3_pow, f3_pow, t3_node0, f3_node0, t3_open, f4_off, f4_ref, f4_node0, f4_open, mr12]
  exact okP.n rfl rfl rfl
set_option maxHeartbeats 1000000 in
set_option maxRecDepth 20000 in
theorem p_flaws  : okP (F_X3_flaws M0) (T_X3_flaws M0) (F_X4_flaws MR) (fun E => if E = 1 then 1 else 0) := by
  simp only [F_X3_flaws, F_X4_flaws, T_X3_needEntry, T_X3_needTwoEntries, T_X3_needLive, T_X3_needBytes, F_X3_needEntry, F_X3_needTwoEntries, F_X3_needLive, F_X3_needBytes, F_X4_isRefused, F_X4_isRefusedNode, F_X4_isRefusedHandle, F_X4_isRefusedAt, F_X4_isRefusedUser, F_X4_isRefusedRow, F_X4_isRefusedBoth, F_X4_isName, xt_n, xt_s, xb1_s, xb2_s, xl_e, t3_pow, f3_pow, t3_node0, f3_node0, t3_open, f4_off, f4_ref, f4_node0, f4_open, mr12]
  exact okP.n rfl rfl rfl
