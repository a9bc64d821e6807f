set_option maxHeartbeats 1000000 in
set_option maxRecDepth 20000 in
theorem p_open (a1 : Int) : okI (F_X3_open M0 a1) (T_X3_open M0 a1) (F_X4_open MR a1) (fun E => if E = 1 then 1 else if E = 2 then 2 else 0) := by
  by_cases ha1 : a1 = 0
  · subst ha1
    simp only [F_X3_open, F_X4_open, T_X3_needEntry, T_X3_needTwoEntries, T_X3_needLive, T_X3_needBytes, F_X3_needEntry, F_X3_needTwoEntries, F_X3_needLive, F_X3_needBytes, F_X4_isRefused, F_X4_isRefusedNode, F_X4_isRefusedHandle, F_X4_isRefusedAt, F_X4_isRefusedUser, F_X4_isRefusedRow, F_X4_isRefusedBoth, F_X4_isName, xt_n, xt_s, xb1_s, xb2_s, xl_e, t3_pow, f3_pow, t3_node0, f3_node0, t3_open, f4_off, f4_ref, f4_node0, f4_open, mr12]
    exact okI.n rfl rfl rfl
  · skip
    simp only [T_X3_open, F_X4_open, T_X3_needEntry, T_X3_needTwoEntries, T_X3_needLive, T_X3_needBytes, F_X3_needEntry, F_X3_needTwoEntries, F_X3_needLive, F_X3_needBytes, F_X4_isRefused, F_X4_isRefusedNode, F_X4_isRefusedHandle, F_X4_isRefusedAt, F_X4_isRefusedUser, F_X4_isRefusedRow, F_X4_isRefusedBoth, F_X4_isName, xt_n, xt_s, xb1_s, xb2_s, xl_e, t3_pow, f3_pow, t3_node0, f3_node0, t3_open, f4_off, f4_ref, f4_node0, f4_open, mr12, t3_node ha1, f4_node ha1]
    exact okI.t rfl rfl rfl rfl
set_option maxHeartbeats 1000000 in
set_option maxRecDepth 20000 in
theorem p_read (a1 : Int) (a2 : Int) : okI (F_X3_read M0 a1 a2) (T_X3_read M0 a1 a2) (F_X4_read MR a1 a2) (fun E => if E = 1 then 1 else if E = 2 then 2 else if E = 3 then 3 else 0) := by
  simp only [T_X3_read, F_X4_read, T_X3_needEntry, T_X3_needTwoEntries, T_X3_needLive, T_X3_needBytes, F_X3_needEntry, F_X3_needTwoEntries, F_X3_needLive, F_X3_needBytes, F_X4_isRefused, F_X4_isRefusedNode, F_X4_isRefusedHandle, F_X4_isRefusedAt, F_X4_isRefusedUser, F_X4_isRefusedRow, F_X4_isRefusedBoth, F_X4_isName, xt_n, xt_s, xb1_s, xb2_s, xl_e, t3_pow, f3_pow, t3_node0, f3_node0, t3_open, f4_off, f4_ref, f4_node0, f4_open, mr12]
  exact okI.t rfl rfl rfl rfl
set_option maxHeartbeats 1000000 in
set_option maxRecDepth 20000 in
theorem p_lock (a1 : Int) (a2 : Int) (a3 : Int) (a4 : Int) : okI (F_X3_lock M0 a1 a2 a3 a4) (T_X3_lock M0 a1 a2 a3 a4) (F_X4_lock MR a1 a2 a3 a4) (fun E => if E = 1 then 1 else if E = 2 then 2 else if E = 3 then 3 else 0) := by
  simp only [T_X3_lock, F_X4_lock, T_X3_needEntry, T_X3_needTwoEntries, T_X3_needLive, T_X3_needBytes, F_X3_needEntry, F_X3_needTwoEntries, F_X3_needLive, F_X3_needBytes, F_X4_isRefused, F_X4_isRefusedNode, F_X4_isRefusedHandle, F_X4_isRefusedAt, F_X4_isRefusedUser, F_X4_isRefusedRow, F_X4_isRefusedBoth, F_X4_isName, xt_n, xt_s, xb1_s, xb2_s, xl_e, t3_pow, f3_pow, t3_node0, f3_node0, t3_open, f4_off, f4_ref, f4_node0, f4_open, mr12]
  exact okI.t rfl rfl rfl rfl
set_option maxHeartbeats 1000000 in
set_option maxRecDepth 20000 in
theorem p_unlock (a1 : Int) (a2 : Int) (a3 : Int) : okI (F_X3_unlock M0 a1 a2 a3) (T_X3_unlock M0 a1 a2 a3) (F_X4_unlock MR a1 a2 a3) (fun E => if E = 1 then 1 else if E = 2 then 2 else if E = 3 then 3 else 0) := by
  simp only [T_X3_unlock, F_X4_unlock, T_X3_needEntry, T_X3_needTwoEntries, T_X3_needLive, T_X3_needBytes, F_X3_needEntry, F_X3_needTwoEntries, F_X3_needLive, F_X3_needBytes, F_X4_isRefused, F_X4_isRefusedNode, F_X4_isRefusedHandle, F_X4_isRefusedAt, F_X4_isRefusedUser, F_X4_isRefusedRow, F_X4_isRefusedBoth, F_X4_isName, xt_n, xt_s, xb1_s, xb2_s, xl_e, t3_pow, f3_pow, t3_node0, f3_node0, t3_open, f4_off, f4_ref, f4_node0, f4_open, mr12]
  exact okI.t rfl rfl rfl rfl
set_option maxHeartbeats 1000000 in
set_option maxRecDepth 20000 in
theorem p_lockAt (a1 : Int) (a2 : Int) : okP (F_X3_lockAt M0 a1 a2) (T_X3_lockAt M0 a1 a2) (F_X4_lockAt MR a1 a2) (fun E => if E = 1 then 1 else if E = 2 then 2 else if E = 3 then 3 else 0) := by
  by_cases ha1 : a1 = 0
  · subst ha1
    by_cases ha2 : (0 : Int) ≤ a2 ∧ a2 ≤ 319
    · skip
      simp only [F_X3_lockAt, F_X4_lockAt, T_X3_needEntry, T_X3_needTwoEntries, T_X3_needLive, T_X3_needBytes, F_X3_needEntry, F_X3_needTwoEntries, F_X3_needLive, F_X3_needBytes, F_X4_isRefused, F_X4_isRefusedNode, F_X4_isRefusedHandle, F_X4_isRefusedAt, F_X4_isRefusedUser, F_X4_isRefusedRow, F_X4_isRefusedBoth, F_X4_isName, xt_n, xt_s, xb1_s, xb2_s, xl_e, t3_pow, f3_pow, t3_node0, f3_node0, t3_open, f4_off, f4_ref, f4_node0, f4_open, mr12, t3_in ha2, f3_in ha2, f4_in ha2]
      exact okP.n rfl rfl rfl
    · skip
      simp only [T_X3_lockAt, F_X4_lockAt, T_X3_needEntry, T_X3_needTwoEntries, T_X3_needLive, T_X3_needBytes, F_X3_needEntry, F_X3_needTwoEntries, F_X3_needLive, F_X3_needBytes, F_X4_isRefused, F_X4_isRefusedNode, F_X4_isRefusedHandle, F_X4_isRefusedAt, F_X4_isRefusedUser, F_X4_isRefusedRow, F_X4_isRefusedBoth, F_X4_isName, xt_n, xt_s, xb1_s, xb2_s, xl_e, t3_pow, f3_pow, t3_node0, f3_node0, t3_open, f4_off, f4_ref, f4_node0, f4_open, mr12, t3_inx ha2, f4_inx ha2]
      exact okP.t rfl rfl rfl rfl
  · skip
    by_cases ha2 : (0 : Int) ≤ a2 ∧ a2 ≤ 319
    · skip
      simp only [T_X3_lockAt, F_X4_lockAt, T_X3_needEntry, T_X3_needTwoEntries, T_X3_needLive, T_X3_needBytes, F_X3_needEntry, F_X3_needTwoEntries, F_X3_needLive, F_X3_needBytes, F_X4_isRefused, F_X4_isRefusedNode, F_X4_isRefusedHandle, F_X4_isRefusedAt, F_X4_isRefusedUser, F_X4_isRefusedRow, F_X4_isRefusedBoth, F_X4_isName, xt_n, xt_s, xb1_s, xb2_s, xl_e, t3_pow, f3_pow, t3_node0, f3_node0, t3_open, f4_off, f4_ref, f4_node0, f4_open, mr12, t3_node ha1, f4_node ha1, t3_in ha2, f3_in ha2, f4_in ha2]
      exact okP.t rfl rfl rfl rfl
    · skip
      simp only [T_X3_lockAt, F_X4_lockAt, T_X3_needEntry, T_X3_needTwoEntries, T_X3_needLive, T_X3_needBytes, F_X3_needEntry, F_X3_needTwoEntries, F_X3_needLive, F_X3_needBytes, F_X4_isRefused, F_X4_isRefusedNode, F_X4_isRefusedHandle, F_X4_isRefusedAt, F_X4_isRefusedUser, F_X4_isRefusedRow, F_X4_isRefusedBoth, F_X4_isName, xt_n, xt_s, xb1_s, xb2_s, xl_e, t3_pow, f3_pow, t3_node0, f3_node0, t3_open, f4_off, f4_ref, f4_node0, f4_open, mr12, t3_node ha1, f4_node ha1, t3_inx ha2, f4_inx ha2]
      exact okP.t rfl rfl rfl rfl
set_option maxHeartbeats 1000000 in
set_option maxRecDepth 20000 in
theorem p_typeOf (a1 : Int) : okP (F_X3_typeOf M0 a1) (T_X3_typeOf M0 a1) (F_X4_typeOf MR a1) (fun E => if E = 1 then 1 else 0) := by
  simp only [F_X3_typeOf, F_X4_typeOf, T_X3_needEntry, T_X3_needTwoEntries, T_X3_needLive, T_X3_needBytes, F_X3_needEntry, F_X3_needTwoEntries, F_X3_needLive, F_X3_needBytes, F_X4_isRefused, F_X4_isRefusedNode, F_X4_isRefusedHandle, F_X4_isRefusedAt, F_X4_isRefusedUser, F_X4_isRefusedRow, F_X4_isRefusedBoth, F_X4_isName, xt_n, xt_s, xb1_s, xb2_s, xl_e, t3_pow, f3_pow, t3_node0, f3_node0, t3_open, f4_off, f4_ref, f4_node0, f4_open, mr12]
  exact okP.n rfl rfl rfl
set_option maxHeartbeats 1000000 in
set_option maxRecDepth 20000 in
theorem p_byteAt (a1 : Int) (a2 : Int) : okP (F_X3_byteAt M0 a1 a2) (T_X3_byteAt M0 a1 a2) (F_X4_byteAt MR a1 a2) (fun E => if E = 1 then 1 else if E = 2 then 2 else if E = 3 then 3 else 0) := by
  by_cases ha1 : a1 = 0
  · subst ha1
    by_cases ha2 : (0 : Int) ≤ a2 ∧ a2 ≤ 319
    · skip
      simp only [F_X3_byteAt, F_X4_byteAt, T_X3_needEntry, T_X3_needTwoEntries, T_X3_needLive, T_X3_needBytes, F_X3_needEntry, F_X3_needTwoEntries, F_X3_needLive, F_X3_needBytes, F_X4_isRefused, F_X4_isRefusedNode, F_X4_isRefusedHandle, F_X4_isRefusedAt, F_X4_isRefusedUser, F_X4_isRefusedRow, F_X4_isRefusedBoth, F_X4_isName, xt_n, xt_s, xb1_s, xb2_s, xl_e, t3_pow, f3_pow, t3_node0, f3_node0, t3_open, f4_off, f4_ref, f4_node0, f4_open, mr12, t3_in ha2, f3_in ha2, f4_in ha2]
      exact okP.n rfl rfl rfl
    · skip
      simp only [T_X3_byteAt, F_X4_byteAt, T_X3_needEntry, T_X3_needTwoEntries, T_X3_needLive, T_X3_needBytes, F_X3_needEntry, F_X3_needTwoEntries, F_X3_needLive, F_X3_needBytes, F_X4_isRefused, F_X4_isRefusedNode, F_X4_isRefusedHandle, F_X4_isRefusedAt, F_X4_isRefusedUser, F_X4_isRefusedRow, F_X4_isRefusedBoth, F_X4_isName, xt_n, xt_s, xb1_s, xb2_s, xl_e, t3_pow, f3_pow, t3_node0, f3_node0, t3_open, f4_off, f4_ref, f4_node0, f4_open, mr12, t3_inx ha2, f4_inx ha2]
      exact okP.t rfl rfl rfl rfl
  · skip
    by_cases ha2 : (0 : Int) ≤ a2 ∧ a2 ≤ 319
    · skip
      simp only [T_X3_byteAt, F_X4_byteAt, T_X3_needEntry, T_X3_needTwoEntries, T_X3_needLive, T_X3_needBytes, F_X3_needEntry, F_X3_needTwoEntries, F_X3_needLive, F_X3_needBytes, F_X4_isRefused, F_X4_isRefusedNode, F_X4_isRefusedHandle, F_X4_isRefusedAt, F_X4_isRefusedUser, F_X4_isRefusedRow, F_X4_isRefusedBoth, F_X4_isName, xt_n, xt_s, xb1_s, xb2_s, xl_e, t3_pow, f3_pow, t3_node0, f3_node0, t3_open, f4_off, f4_ref, f4_node0, f4_open, mr12, t3_node ha1, f4_node ha1, t3_in ha2, f3_in ha2, f4_in ha2]
      exact okP.t rfl rfl rfl rfl
    · skip
      simp only [T_X3_byteAt, F_X4_byteAt, T_X3_needEntry, T_X3_needTwoEntries, T_X3_needLive, T_X3_needBytes, F_X3_needEntry, F_X3_needTwoEntries, F_X3_needLive, F_X3_needBytes, F_X4_isRefused, F_X4_isRefusedNode, F_X4_isRefusedHandle, F_X4_isRefusedAt, F_X4_isRefusedUser, F_X4_isRefusedRow, F_X4_isRefusedBoth, F_X4_isName, xt_n, xt_s, xb1_s, xb2_s, xl_e, t3_pow, f3_pow, t3_node0, f3_node0, t3_open, f4_off, f4_ref, f4_node0, f4_open, mr12, t3_node ha1, f4_node ha1, t3_inx ha2, f4_inx ha2]
      exact okP.t rfl rfl rfl rfl
set_option maxHeartbeats 1000000 in
set_option maxRecDepth 20000 in
theorem p_nextData (a1 : Int) (a2 : Int) : okP (F_X3_nextData M0 a1 a2) (T_X3_nextData M0 a1 a2) (F_X4_nextData MR a1 a2) (fun E => if E = 1 then 1 else if E = 2 then 2 else if E = 3 then 3 else 0) := by
  by_cases ha1 : a1 = 0
  · subst ha1
    by_cases ha2 : (0 : Int) ≤ a2 ∧ a2 ≤ 320
    · skip
      simp only [F_X3_nextData, F_X4_nextData, T_X3_needEntry, T_X3_needTwoEntries, T_X3_needLive, T_X3_needBytes, F_X3_needEntry, F_X3_needTwoEntries, F_X3_needLive, F_X3_needBytes, F_X4_isRefused, F_X4_isRefusedNode, F_X4_isRefusedHandle, F_X4_isRefusedAt, F_X4_isRefusedUser, F_X4_isRefusedRow, F_X4_isRefusedBoth, F_X4_isName, xt_n, xt_s, xb1_s, xb2_s, xl_e, t3_pow, f3_pow, t3_node0, f3_node0, t3_open, f4_off, f4_ref, f4_node0, f4_open, mr12, t3_in ha2, f3_in ha2, f4_in ha2]
      exact okP.n rfl rfl rfl
    · skip
      simp only [T_X3_nextData, F_X4_nextData, T_X3_needEntry, T_X3_needTwoEntries, T_X3_needLive, T_X3_needBytes, F_X3_needEntry, F_X3_needTwoEntries, F_X3_needLive, F_X3_needBytes, F_X4_isRefused, F_X4_isRefusedNode, F_X4_isRefusedHandle, F_X4_isRefusedAt, F_X4_isRefusedUser, F_X4_isRefusedRow, F_X4_isRefusedBoth, F_X4_isName, xt_n, xt_s, xb1_s, xb2_s, xl_e, t3_pow, f3_pow, t3_node0, f3_node0, t3_open, f4_off, f4_ref, f4_node0, f4_open, mr12, t3_inx ha2, f4_inx ha2]
      exact okP.t rfl rfl rfl rfl
  · skip
    by_cases ha2 : (0 : Int) ≤ a2 ∧ a2 ≤ 320
    · skip
      simp only [T_X3_nextData, F_X4_nextData, T_X3_needEntry, T_X3_needTwoEntries, T_X3_needLive, T_X3_needBytes, F_X3_needEntry, F_X3_needTwoEntries, F_X3_needLive, F_X3_needBytes, F_X4_isRefused, F_X4_isRefusedNode, F_X4_isRefusedHandle, F_X4_isRefusedAt, F_X4_isRefusedUser, F_X4_isRefusedRow, F_X4_isRefusedBoth, F_X4_isName, xt_n, xt_s, xb1_s, xb2_s, xl_e, t3_pow, f3_pow, t3_node0, f3_node0, t3_open, f4_off, f4_ref, f4_node0, f4_open, mr12, t3_node ha1, f4_node ha1, t3_in ha2, f3_in ha2, f4_in ha2]
      exact okP.t rfl rfl rfl rfl
    · skip
      simp only [T_X3_nextData, F_X4_nextData, T_X3_needEntry, T_X3_needTwoEntries, T_X3_needLive, T_X3_needBytes, F_X3_needEntry, F_X3_needTwoEntries, F_X3_needLive, F_X3_needBytes, F_X4_isRefused, F_X4_isRefusedNode, F_X4_isRefusedHandle, F_X4_isRefusedAt, F_X4_isRefusedUser, F_X4_isRefusedRow, F_X4_isRefusedBoth, F_X4_isName, xt_n, xt_s, xb1_s, xb2_s, xl_e, t3_pow, f3_pow, t3_node0, f3_node0, t3_open, f4_off, f4_ref, f4_node0, f4_open, mr12, t3_node ha1, f4_node ha1, t3_inx ha2, f4_inx ha2]
      exact okP.t rfl rfl rfl rfl
set_option maxHeartbeats 1000000 in
set_option maxRecDepth 20000 in
theorem p_nextHole (a1 : Int) (a2 : Int) : okP (F_X3_nextHole M0 a1 a2) (T_X3_nextHole M0 a1 a2) (F_X4_nextHole MR a1 a2) (fun E => if E = 1 then 1 else if E = 2 then 2 else if E = 3 then 3 else 0) := by
  by_cases ha1 : a1 = 0
  · subst ha1
    by_cases ha2 : (0 : Int) ≤ a2 ∧ a2 ≤ 320
    · skip
      simp only [F_X3_nextHole, F_X4_nextHole, T_X3_needEntry, T_X3_needTwoEntries, T_X3_needLive, T_X3_needBytes, F_X3_needEntry, F_X3_needTwoEntries, F_X3_needLive, F_X3_needBytes, F_X4_isRefused, F_X4_isRefusedNode, F_X4_isRefusedHandle, F_X4_isRefusedAt, F_X4_isRefusedUser, F_X4_isRefusedRow, F_X4_isRefusedBoth, F_X4_isName, xt_n, xt_s, xb1_s, xb2_s, xl_e, t3_pow, f3_pow, t3_node0, f3_node0, t3_open, f4_off, f4_ref, f4_node0, f4_open, mr12, t3_in ha2, f3_in ha2, f4_in ha2]
      exact okP.n rfl rfl rfl
    · skip
      simp only [T_X3_nextHole, F_X4_nextHole, T_X3_needEntry, T_X3_needTwoEntries, T_X3_needLive, T_X3_needBytes, F_X3_needEntry, F_X3_needTwoEntries, F_X3_needLive, F_X3_needBytes, F_X4_isRefused, F_X4_isRefusedNode, F_X4_isRefusedHandle, F_X4_isRefusedAt, F_X4_isRefusedUser, F_X4_isRefusedRow, F_X4_isRefusedBoth, F_X4_isName, xt_n, xt_s, xb1_s, xb2_s, xl_e, t3_pow, f3_pow, t3_node0, f3_node0, t3_open, f4_off, f4_ref, f4_node0, f4_open, mr12, t3_inx ha2, f4_inx ha2]
      exact okP.t rfl rfl rfl rfl
  · skip
    by_cases ha2 : (0 : Int) ≤ a2 ∧ a2 ≤ 320
    · skip
      simp only [T_X3_nextHole, F_X4_nextHole, T_X3_needEntry, T_X3_needTwoEntries, T_X3_needLive, T_X3_needBytes, F_X3_needEntry, F_X3_needTwoEntries, F_X3_needLive, F_X3_needBytes, F_X4_isRefused, F_X4_isRefusedNode, F_X4_isRefusedHandle, F_X4_isRefusedAt, F_X4_isRefusedUser, F_X4_isRefusedRow, F_X4_isRefusedBoth, F_X4_isName, xt_n, xt_s, xb1_s, xb2_s, xl_e, t3_pow, f3_pow, t3_node0, f3_node0, t3_open, f4_off, f4_ref, f4_node0, f4_open, mr12, t3_node ha1, f4_node ha1, t3_in ha2, f3_in ha2, f4_in ha2]
      exact okP.t rfl rfl rfl rfl
    · skip
      simp only [T_X3_nextHole, F_X4_nextHole, T_X3_needEntry, T_X3_needTwoEntries, T_X3_needLive, T_X3_needBytes, F_X3_needEntry, F_X3_needTwoEntries, F_X3_needLive, F_X3_needBytes, F_X4_isRefused, F_X4_isRefusedNode, F_X4_isRefusedHandle, F_X4_isRefusedAt, F_X4_isRefusedUser, F_X4_isRefusedRow, F_X4_isRefusedBoth, F_X4_isName, xt_n, xt_s, xb1_s, xb2_s, xl_e, t3_pow, f3_pow, t3_node0, f3_node0, t3_open, f4_off, f4_ref, f4_node0, f4_open, mr12, t3_node ha1, f4_node ha1, t3_inx ha2, f4_inx ha2]
      exact okP.t rfl rfl rfl rfl
set_option maxHeartbeats 1000000 in
set_option maxRecDepth 20000 in
theorem p_sameBytes (a1 : Int) (a2 : Int) : okP (F_X3_sameBytes M0 a1 a2) (T_X3_sameBytes M0 a1 a2) (F_X4_sameBytes MR a1 a2) (fun E => if E = 1 then 1 else if E = 2 then 2 else 0) := by
  by_cases ha1 : a1 = 0
  · subst ha1
    by_cases ha2 : a2 = 0
    · subst ha2
      simp only [F_X3_sameBytes, F_X4_sameBytes, T_X3_needEntry, T_X3_needTwoEntries, T_X3_needLive, T_X3_needBytes, F_X3_needEntry, F_X3_needTwoEntries, F_X3_needLive, F_X3_needBytes, F_X4_isRefused, F_X4_isRefusedNode, F_X4_isRefusedHandle, F_X4_isRefusedAt, F_X4_isRefusedUser, F_X4_isRefusedRow, F_X4_isRefusedBoth, F_X4_isName, xt_n, xt_s, xb1_s, xb2_s, xl_e, t3_pow, f3_pow, t3_node0, f3_node0, t3_open, f4_off, f4_ref, f4_node0, f4_open, mr12]
      exact okP.n rfl rfl rfl
    · skip
      simp only [T_X3_sameBytes, F_X4_sameBytes, T_X3_needEntry, T_X3_needTwoEntries, T_X3_needLive, T_X3_needBytes, F_X3_needEntry, F_X3_needTwoEntries, F_X3_needLive, F_X3_needBytes, F_X4_isRefused, F_X4_isRefusedNode, F_X4_isRefusedHandle, F_X4_isRefusedAt, F_X4_isRefusedUser, F_X4_isRefusedRow, F_X4_isRefusedBoth, F_X4_isName, xt_n, xt_s, xb1_s, xb2_s, xl_e, t3_pow, f3_pow, t3_node0, f3_node0, t3_open, f4_off, f4_ref, f4_node0, f4_open, mr12, t3_node ha2, f4_node ha2]
      exact okP.t rfl rfl rfl rfl
  · skip
    by_cases ha2 : a2 = 0
    · subst ha2
      simp only [T_X3_sameBytes, F_X4_sameBytes, T_X3_needEntry, T_X3_needTwoEntries, T_X3_needLive, T_X3_needBytes, F_X3_needEntry, F_X3_needTwoEntries, F_X3_needLive, F_X3_needBytes, F_X4_isRefused, F_X4_isRefusedNode, F_X4_isRefusedHandle, F_X4_isRefusedAt, F_X4_isRefusedUser, F_X4_isRefusedRow, F_X4_isRefusedBoth, F_X4_isName, xt_n, xt_s, xb1_s, xb2_s, xl_e, t3_pow, f3_pow, t3_node0, f3_node0, t3_open, f4_off, f4_ref, f4_node0, f4_open, mr12, t3_node ha1, f4_node ha1]
      exact okP.t rfl rfl rfl rfl
    · skip
      simp only [T_X3_sameBytes, F_X4_sameBytes, T_X3_needEntry, T_X3_needTwoEntries, T_X3_needLive, T_X3_needBytes, F_X3_needEntry, F_X3_needTwoEntries, F_X3_needLive, F_X3_needBytes, F_X4_isRefused, F_X4_isRefusedNode, F_X4_isRefusedHandle, F_X4_isRefusedAt, F_X4_isRefusedUser, F_X4_isRefusedRow, F_X4_isRefusedBoth, F_X4_isName, xt_n, xt_s, xb1_s, xb2_s, xl_e, t3_pow, f3_pow, t3_node0, f3_node0, t3_open, f4_off, f4_ref, f4_node0, f4_open, mr12, t3_node ha1, f4_node ha1, t3_node ha2, f4_node ha2]
      exact okP.t rfl rfl rfl rfl
set_option maxHeartbeats 1000000 in
set_option maxRecDepth 20000 in
theorem p_nameAt (a1 : Int) (a2 : Int) : okP (F_X3_nameAt M0 a1 a2) (T_X3_nameAt M0 a1 a2) (F_X4_nameAt MR a1 a2) (fun E => if E = 1 then 1 else if E = 2 then 2 else 0) := by
  by_cases ha1 : a1 = 0
  · subst ha1
    simp only [F_X3_nameAt, F_X4_nameAt, T_X3_needEntry, T_X3_needTwoEntries, T_X3_needLive, T_X3_needBytes, F_X3_needEntry, F_X3_needTwoEntries, F_X3_needLive, F_X3_needBytes, F_X4_isRefused, F_X4_isRefusedNode, F_X4_isRefusedHandle, F_X4_isRefusedAt, F_X4_isRefusedUser, F_X4_isRefusedRow, F_X4_isRefusedBoth, F_X4_isName, xt_n, xt_s, xb1_s, xb2_s, xl_e, t3_pow, f3_pow, t3_node0, f3_node0, t3_open, f4_off, f4_ref, f4_node0, f4_open, mr12]
    exact okP.n rfl rfl rfl
  · skip
    simp only [T_X3_nameAt, F_X4_nameAt, T_X3_needEntry, T_X3_needTwoEntries, T_X3_needLive, T_X3_needBytes, F_X3_needEntry, F_X3_needTwoEntries, F_X3_needLive, F_X3_needBytes, F_X4_isRefused, F_X4_isRefusedNode, F_X4_isRefusedHandle, F_X4_isRefusedAt, F_X4_isRefusedUser, F_X4_isRefusedRow, F_X4_isRefusedBoth, F_X4_isName, xt_n, xt_s, xb1_s, xb2_s, xl_e, t3_pow, f3_pow, t3_node0, f3_node0, t3_open, f4_off, f4_ref, f4_node0, f4_open, mr12, t3_node ha1, f4_node ha1]
    exact okP.t rfl rfl rfl rfl
set_option maxHeartbeats 1000000 in
set_option maxRecDepth 20000 in
theorem p_usedBy (a1 : Int) : okP (F_X3_usedBy M0 a1) (T_X3_usedBy M0 a1) (F_X4_usedBy_ MR a1) (fun E => if E = 1 then 1 else if E = 3 then 2 else 0) := by
  by_cases ha1 : (0 : Int) ≤ a1 ∧ a1 ≤ 3
  · skip
    simp only [F_X3_usedBy, F_X4_usedBy_, T_X3_needEntry, T_X3_needTwoEntries, T_X3_needLive, T_X3_needBytes, F_X3_needEntry, F_X3_needTwoEntries, F_X3_needLive, F_X3_needBytes, F_X4_isRefused, F_X4_isRefusedNode, F_X4_isRefusedHandle, F_X4_isRefusedAt, F_X4_isRefusedUser, F_X4_isRefusedRow, F_X4_isRefusedBoth, F_X4_isName, xt_n, xt_s, xb1_s, xb2_s, xl_e, t3_pow, f3_pow, t3_node0, f3_node0, t3_open, f4_off, f4_ref, f4_node0, f4_open, mr12, t3_in ha1, f3_in ha1, f4_in ha1]
    exact okP.n rfl rfl rfl
  · skip
    simp only [T_X3_usedBy, F_X4_usedBy_, T_X3_needEntry, T_X3_needTwoEntries, T_X3_needLive, T_X3_needBytes, F_X3_needEntry, F_X3_needTwoEntries, F_X3_needLive, F_X3_needBytes, F_X4_isRefused, F_X4_isRefusedNode, F_X4_isRefusedHandle, F_X4_isRefusedAt, F_X4_isRefusedUser, F_X4_isRefusedRow, F_X4_isRefusedBoth, F_X4_isName, xt_n, xt_s, xb1_s, xb2_s, xl_e, t3_pow, f3_pow, t3_node0, f3_node0, t3_open, f4_off, f4_ref, f4_node0, f4_open, mr12, t3_inx ha1, f4_inx ha1]
    exact okP.t rfl rfl rfl rfl
set_option maxHeartbeats 1000000 in
set_option maxRecDepth 20000 in
theorem p_quotaOf (a1 : Int) : okP (F_X3_quotaOf M0 a1) (T_X3_quotaOf M0 a1) (F_X4_quotaOf MR a1) (fun E => if E = 1 then 1 else if E = 3 then 2 else 0) := by
  by_cases ha1 : (0 : Int) ≤ a1 ∧ a1 ≤ 3
  · skip
    simp only [F_X3_quotaOf, F_X4_quotaOf, T_X3_needEntry, T_X3_needTwoEntries, T_X3_needLive, T_X3_needBytes, F_X3_needEntry, F_X3_needTwoEntries, F_X3_needLive, F_X3_needBytes, F_X4_isRefused, F_X4_isRefusedNode, F_X4_isRefusedHandle, F_X4_isRefusedAt, F_X4_isRefusedUser, F_X4_isRefusedRow, F_X4_isRefusedBoth, F_X4_isName, xt_n, xt_s, xb1_s, xb2_s, xl_e, t3_pow, f3_pow, t3_node0, f3_node0, t3_open, f4_off, f4_ref, f4_node0, f4_open, mr12, t3_in ha1, f3_in ha1, f4_in ha1]
    exact okP.n rfl rfl rfl
  · skip
    simp only [T_X3_quotaOf, F_X4_quotaOf, T_X3_needEntry, T_X3_needTwoEntries, T_X3_needLive, T_X3_needBytes, F_X3_needEntry, F_X3_needTwoEntries, F_X3_needLive, F_X3_needBytes, F_X4_isRefused, F_X4_isRefusedNode, F_X4_isRefusedHandle, F_X4_isRefusedAt, F_X4_isRefusedUser, F_X4_isRefusedRow, F_X4_isRefusedBoth, F_X4_isName, xt_n, xt_s, xb1_s, xb2_s, xl_e, t3_pow, f3_pow, t3_node0, f3_node0, t3_open, f4_off, f4_ref, f4_node0, f4_open, mr12, t3_inx ha1, f4_inx ha1]
    exact okP.t rfl rfl rfl rfl
