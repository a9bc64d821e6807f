set_option maxHeartbeats 2000000 in
set_option maxRecDepth 20000 in
theorem g_changes : (ckP (F_X3_changes M0) (F_X4_changes MR)) = true := by decide +kernel
set_option maxHeartbeats 2000000 in
set_option maxRecDepth 20000 in
theorem p_changes  : okP (F_X3_changes M0) (T_X3_changes M0) (F_X4_changes MR) (fun E => if E = 1 then 1 else 0) := by
  exact ckP.ok g_changes
set_option maxHeartbeats 2000000 in
set_option maxRecDepth 20000 in
theorem g_nodes : (ckP (F_X3_nodes M0) (F_X4_nodes MR)) = true := by decide +kernel
set_option maxHeartbeats 2000000 in
set_option maxRecDepth 20000 in
theorem p_nodes  : okP (F_X3_nodes M0) (T_X3_nodes M0) (F_X4_nodes MR) (fun E => if E = 1 then 1 else 0) := by
  exact ckP.ok g_nodes
set_option maxHeartbeats 2000000 in
set_option maxRecDepth 20000 in
theorem g_linksOf : (ckP (F_X3_linksOf M0 0) (F_X4_linksOf MR 0)) = true := by decide +kernel
set_option maxHeartbeats 2000000 in
set_option maxRecDepth 20000 in
theorem p_linksOf (a1 : Int) : okP (F_X3_linksOf M0 a1) (T_X3_linksOf M0 a1) (F_X4_linksOf MR a1) (fun E => if E = 1 then 1 else if E = 2 then 2 else 0) := by
  by_cases ha1 : a1 = 0
  · subst ha1
    exact ckP.ok g_linksOf
  · skip
    simp only [T_X3_linksOf, F_X4_linksOf, T_X3_needEntry, T_X3_needTwoEntries, T_X3_needLive, T_X3_needBytes, F_X3_needEntry, F_X3_needTwoEntries, F_X3_needLive, F_X3_needBytes, F_X4_isRefused, F_X4_isRefusedNode, F_X4_isRefusedHandle, F_X4_isRefusedAt, F_X4_isRefusedUser, F_X4_isRefusedRow, F_X4_isRefusedBoth, F_X4_isName, xt_n, xt_s, xb1_s, xb2_s, xl_e, t3_pow, f3_pow, t3_node0, f3_node0, t3_open, f4_off, f4_ref, f4_node0, f4_open, mr12, t3_node ha1, f4_node ha1]
    exact okP.t rfl rfl rfl rfl (by decide)
set_option maxHeartbeats 2000000 in
set_option maxRecDepth 20000 in
theorem g_ownerOf : (ckP (F_X3_ownerOf M0 0) (F_X4_ownerOf MR 0)) = true := by decide +kernel
set_option maxHeartbeats 2000000 in
set_option maxRecDepth 20000 in
theorem p_ownerOf (a1 : Int) : okP (F_X3_ownerOf M0 a1) (T_X3_ownerOf M0 a1) (F_X4_ownerOf MR a1) (fun E => if E = 1 then 1 else if E = 2 then 2 else 0) := by
  by_cases ha1 : a1 = 0
  · subst ha1
    exact ckP.ok g_ownerOf
  · skip
    simp only [T_X3_ownerOf, F_X4_ownerOf, T_X3_needEntry, T_X3_needTwoEntries, T_X3_needLive, T_X3_needBytes, F_X3_needEntry, F_X3_needTwoEntries, F_X3_needLive, F_X3_needBytes, F_X4_isRefused, F_X4_isRefusedNode, F_X4_isRefusedHandle, F_X4_isRefusedAt, F_X4_isRefusedUser, F_X4_isRefusedRow, F_X4_isRefusedBoth, F_X4_isName, xt_n, xt_s, xb1_s, xb2_s, xl_e, t3_pow, f3_pow, t3_node0, f3_node0, t3_open, f4_off, f4_ref, f4_node0, f4_open, mr12, t3_node ha1, f4_node ha1]
    exact okP.t rfl rfl rfl rfl (by decide)
set_option maxHeartbeats 2000000 in
set_option maxRecDepth 20000 in
theorem g_sizeOf : (ckP (F_X3_sizeOf M0 0) (F_X4_sizeOf MR 0)) = true := by decide +kernel
set_option maxHeartbeats 2000000 in
set_option maxRecDepth 20000 in
theorem p_sizeOf (a1 : Int) : okP (F_X3_sizeOf M0 a1) (T_X3_sizeOf M0 a1) (F_X4_sizeOf MR a1) (fun E => if E = 1 then 1 else if E = 2 then 2 else 0) := by
  by_cases ha1 : a1 = 0
  · subst ha1
    exact ckP.ok g_sizeOf
  · skip
    simp only [T_X3_sizeOf, F_X4_sizeOf, T_X3_needEntry, T_X3_needTwoEntries, T_X3_needLive, T_X3_needBytes, F_X3_needEntry, F_X3_needTwoEntries, F_X3_needLive, F_X3_needBytes, F_X4_isRefused, F_X4_isRefusedNode, F_X4_isRefusedHandle, F_X4_isRefusedAt, F_X4_isRefusedUser, F_X4_isRefusedRow, F_X4_isRefusedBoth, F_X4_isName, xt_n, xt_s, xb1_s, xb2_s, xl_e, t3_pow, f3_pow, t3_node0, f3_node0, t3_open, f4_off, f4_ref, f4_node0, f4_open, mr12, t3_node ha1, f4_node ha1]
    exact okP.t rfl rfl rfl rfl (by decide)
set_option maxHeartbeats 2000000 in
set_option maxRecDepth 20000 in
theorem g_blocksOf : (ckP (F_X3_blocksOf M0 0) (F_X4_blocksOf MR 0)) = true := by decide +kernel
set_option maxHeartbeats 2000000 in
set_option maxRecDepth 20000 in
theorem p_blocksOf (a1 : Int) : okP (F_X3_blocksOf M0 a1) (T_X3_blocksOf M0 a1) (F_X4_blocksOf MR a1) (fun E => if E = 1 then 1 else if E = 2 then 2 else 0) := by
  by_cases ha1 : a1 = 0
  · subst ha1
    exact ckP.ok g_blocksOf
  · skip
    simp only [T_X3_blocksOf, F_X4_blocksOf, T_X3_needEntry, T_X3_needTwoEntries, T_X3_needLive, T_X3_needBytes, F_X3_needEntry, F_X3_needTwoEntries, F_X3_needLive, F_X3_needBytes, F_X4_isRefused, F_X4_isRefusedNode, F_X4_isRefusedHandle, F_X4_isRefusedAt, F_X4_isRefusedUser, F_X4_isRefusedRow, F_X4_isRefusedBoth, F_X4_isName, xt_n, xt_s, xb1_s, xb2_s, xl_e, t3_pow, f3_pow, t3_node0, f3_node0, t3_open, f4_off, f4_ref, f4_node0, f4_open, mr12, t3_node ha1, f4_node ha1]
    exact okP.t rfl rfl rfl rfl (by decide)
set_option maxHeartbeats 2000000 in
set_option maxRecDepth 20000 in
theorem g_sharedOf : (ckP (F_X3_sharedOf M0 0) (F_X4_sharedOf MR 0)) = true := by decide +kernel
set_option maxHeartbeats 2000000 in
set_option maxRecDepth 20000 in
theorem p_sharedOf (a1 : Int) : okP (F_X3_sharedOf M0 a1) (T_X3_sharedOf M0 a1) (F_X4_sharedOf MR a1) (fun E => if E = 1 then 1 else if E = 2 then 2 else 0) := by
  by_cases ha1 : a1 = 0
  · subst ha1
    exact ckP.ok g_sharedOf
  · skip
    simp only [T_X3_sharedOf, F_X4_sharedOf, T_X3_needEntry, T_X3_needTwoEntries, T_X3_needLive, T_X3_needBytes, F_X3_needEntry, F_X3_needTwoEntries, F_X3_needLive, F_X3_needBytes, F_X4_isRefused, F_X4_isRefusedNode, F_X4_isRefusedHandle, F_X4_isRefusedAt, F_X4_isRefusedUser, F_X4_isRefusedRow, F_X4_isRefusedBoth, F_X4_isName, xt_n, xt_s, xb1_s, xb2_s, xl_e, t3_pow, f3_pow, t3_node0, f3_node0, t3_open, f4_off, f4_ref, f4_node0, f4_open, mr12, t3_node ha1, f4_node ha1]
    exact okP.t rfl rfl rfl rfl (by decide)
set_option maxHeartbeats 2000000 in
set_option maxRecDepth 20000 in
theorem g_byteAt : ((List.range 320).all fun ia2 => ckP (F_X3_byteAt M0 0 (0 + (ia2 : Int))) (F_X4_byteAt MR 0 (0 + (ia2 : Int)))) = true := by decide +kernel
set_option maxHeartbeats 2000000 in
set_option maxRecDepth 20000 in
theorem p_byteAt (a1 : Int) (a2 : Int) : okP (F_X3_byteAt M0 a1 a2) (T_X3_byteAt M0 a1 a2) (F_X4_byteAt MR a1 a2) (fun E => if E = 1 then 1 else if E = 2 then 2 else if E = 3 then 3 else 0) := by
  by_cases ha1 : a1 = 0
  · subst ha1
    by_cases ha2 : (0 : Int) ≤ a2 ∧ a2 ≤ 319
    · skip
      obtain ⟨ia2, hia2, rfl⟩ := in_nat (n := 320) ha2 (by decide)
      exact ckP.ok (List.all_eq_true.mp g_byteAt ia2 (List.mem_range.mpr hia2))
    · skip
      simp only [T_X3_byteAt, F_X4_byteAt, T_X3_needEntry, T_X3_needTwoEntries, T_X3_needLive, T_X3_needBytes, F_X3_needEntry, F_X3_needTwoEntries, F_X3_needLive, F_X3_needBytes, F_X4_isRefused, F_X4_isRefusedNode, F_X4_isRefusedHandle, F_X4_isRefusedAt, F_X4_isRefusedUser, F_X4_isRefusedRow, F_X4_isRefusedBoth, F_X4_isName, xt_n, xt_s, xb1_s, xb2_s, xl_e, t3_pow, f3_pow, t3_node0, f3_node0, t3_open, f4_off, f4_ref, f4_node0, f4_open, mr12, t3_inx ha2, f4_inx ha2]
      exact okP.t rfl rfl rfl rfl (by decide)
  · skip
    by_cases ha2 : (0 : Int) ≤ a2 ∧ a2 ≤ 319
    · skip
      simp only [T_X3_byteAt, F_X4_byteAt, T_X3_needEntry, T_X3_needTwoEntries, T_X3_needLive, T_X3_needBytes, F_X3_needEntry, F_X3_needTwoEntries, F_X3_needLive, F_X3_needBytes, F_X4_isRefused, F_X4_isRefusedNode, F_X4_isRefusedHandle, F_X4_isRefusedAt, F_X4_isRefusedUser, F_X4_isRefusedRow, F_X4_isRefusedBoth, F_X4_isName, xt_n, xt_s, xb1_s, xb2_s, xl_e, t3_pow, f3_pow, t3_node0, f3_node0, t3_open, f4_off, f4_ref, f4_node0, f4_open, mr12, t3_node ha1, f4_node ha1, t3_in ha2, f3_in ha2, f4_in ha2]
      exact okP.t rfl rfl rfl rfl (by decide)
    · skip
      simp only [T_X3_byteAt, F_X4_byteAt, T_X3_needEntry, T_X3_needTwoEntries, T_X3_needLive, T_X3_needBytes, F_X3_needEntry, F_X3_needTwoEntries, F_X3_needLive, F_X3_needBytes, F_X4_isRefused, F_X4_isRefusedNode, F_X4_isRefusedHandle, F_X4_isRefusedAt, F_X4_isRefusedUser, F_X4_isRefusedRow, F_X4_isRefusedBoth, F_X4_isName, xt_n, xt_s, xb1_s, xb2_s, xl_e, t3_pow, f3_pow, t3_node0, f3_node0, t3_open, f4_off, f4_ref, f4_node0, f4_open, mr12, t3_node ha1, f4_node ha1, t3_inx ha2, f4_inx ha2]
      exact okP.t rfl rfl rfl rfl (by decide)
set_option maxHeartbeats 2000000 in
set_option maxRecDepth 20000 in
theorem g_isHole : ((List.range 20).all fun ia2 => ckP (F_X3_isHole M0 0 (0 + (ia2 : Int))) (F_X4_isHole MR 0 (0 + (ia2 : Int)))) = true := by decide +kernel
set_option maxHeartbeats 2000000 in
set_option maxRecDepth 20000 in
theorem p_isHole (a1 : Int) (a2 : Int) : okP (F_X3_isHole M0 a1 a2) (T_X3_isHole M0 a1 a2) (F_X4_isHole MR a1 a2) (fun E => if E = 1 then 1 else if E = 2 then 2 else if E = 3 then 3 else 0) := by
  by_cases ha1 : a1 = 0
  · subst ha1
    by_cases ha2 : (0 : Int) ≤ a2 ∧ a2 ≤ 19
    · skip
      obtain ⟨ia2, hia2, rfl⟩ := in_nat (n := 20) ha2 (by decide)
      exact ckP.ok (List.all_eq_true.mp g_isHole ia2 (List.mem_range.mpr hia2))
    · skip
      simp only [T_X3_isHole, F_X4_isHole, T_X3_needEntry, T_X3_needTwoEntries, T_X3_needLive, T_X3_needBytes, F_X3_needEntry, F_X3_needTwoEntries, F_X3_needLive, F_X3_needBytes, F_X4_isRefused, F_X4_isRefusedNode, F_X4_isRefusedHandle, F_X4_isRefusedAt, F_X4_isRefusedUser, F_X4_isRefusedRow, F_X4_isRefusedBoth, F_X4_isName, xt_n, xt_s, xb1_s, xb2_s, xl_e, t3_pow, f3_pow, t3_node0, f3_node0, t3_open, f4_off, f4_ref, f4_node0, f4_open, mr12, t3_inx ha2, f4_inx ha2]
      exact okP.t rfl rfl rfl rfl (by decide)
  · skip
    by_cases ha2 : (0 : Int) ≤ a2 ∧ a2 ≤ 19
    · skip
      simp only [T_X3_isHole, F_X4_isHole, T_X3_needEntry, T_X3_needTwoEntries, T_X3_needLive, T_X3_needBytes, F_X3_needEntry, F_X3_needTwoEntries, F_X3_needLive, F_X3_needBytes, F_X4_isRefused, F_X4_isRefusedNode, F_X4_isRefusedHandle, F_X4_isRefusedAt, F_X4_isRefusedUser, F_X4_isRefusedRow, F_X4_isRefusedBoth, F_X4_isName, xt_n, xt_s, xb1_s, xb2_s, xl_e, t3_pow, f3_pow, t3_node0, f3_node0, t3_open, f4_off, f4_ref, f4_node0, f4_open, mr12, t3_node ha1, f4_node ha1, t3_in ha2, f3_in ha2, f4_in ha2]
      exact okP.t rfl rfl rfl rfl (by decide)
    · skip
      simp only [T_X3_isHole, F_X4_isHole, T_X3_needEntry, T_X3_needTwoEntries, T_X3_needLive, T_X3_needBytes, F_X3_needEntry, F_X3_needTwoEntries, F_X3_needLive, F_X3_needBytes, F_X4_isRefused, F_X4_isRefusedNode, F_X4_isRefusedHandle, F_X4_isRefusedAt, F_X4_isRefusedUser, F_X4_isRefusedRow, F_X4_isRefusedBoth, F_X4_isName, xt_n, xt_s, xb1_s, xb2_s, xl_e, t3_pow, f3_pow, t3_node0, f3_node0, t3_open, f4_off, f4_ref, f4_node0, f4_open, mr12, t3_node ha1, f4_node ha1, t3_inx ha2, f4_inx ha2]
      exact okP.t rfl rfl rfl rfl (by decide)
set_option maxHeartbeats 2000000 in
set_option maxRecDepth 20000 in
theorem g_nextData : ((List.range 321).all fun ia2 => ckP (F_X3_nextData M0 0 (0 + (ia2 : Int))) (F_X4_nextData MR 0 (0 + (ia2 : Int)))) = true := by decide +kernel
set_option maxHeartbeats 2000000 in
set_option maxRecDepth 20000 in
theorem p_nextData (a1 : Int) (a2 : Int) : okP (F_X3_nextData M0 a1 a2) (T_X3_nextData M0 a1 a2) (F_X4_nextData MR a1 a2) (fun E => if E = 1 then 1 else if E = 2 then 2 else if E = 3 then 3 else 0) := by
  by_cases ha1 : a1 = 0
  · subst ha1
    by_cases ha2 : (0 : Int) ≤ a2 ∧ a2 ≤ 320
    · skip
      obtain ⟨ia2, hia2, rfl⟩ := in_nat (n := 321) ha2 (by decide)
      exact ckP.ok (List.all_eq_true.mp g_nextData ia2 (List.mem_range.mpr hia2))
    · skip
      simp only [T_X3_nextData, F_X4_nextData, T_X3_needEntry, T_X3_needTwoEntries, T_X3_needLive, T_X3_needBytes, F_X3_needEntry, F_X3_needTwoEntries, F_X3_needLive, F_X3_needBytes, F_X4_isRefused, F_X4_isRefusedNode, F_X4_isRefusedHandle, F_X4_isRefusedAt, F_X4_isRefusedUser, F_X4_isRefusedRow, F_X4_isRefusedBoth, F_X4_isName, xt_n, xt_s, xb1_s, xb2_s, xl_e, t3_pow, f3_pow, t3_node0, f3_node0, t3_open, f4_off, f4_ref, f4_node0, f4_open, mr12, t3_inx ha2, f4_inx ha2]
      exact okP.t rfl rfl rfl rfl (by decide)
  · skip
    by_cases ha2 : (0 : Int) ≤ a2 ∧ a2 ≤ 320
    · skip
      simp only [T_X3_nextData, F_X4_nextData, T_X3_needEntry, T_X3_needTwoEntries, T_X3_needLive, T_X3_needBytes, F_X3_needEntry, F_X3_needTwoEntries, F_X3_needLive, F_X3_needBytes, F_X4_isRefused, F_X4_isRefusedNode, F_X4_isRefusedHandle, F_X4_isRefusedAt, F_X4_isRefusedUser, F_X4_isRefusedRow, F_X4_isRefusedBoth, F_X4_isName, xt_n, xt_s, xb1_s, xb2_s, xl_e, t3_pow, f3_pow, t3_node0, f3_node0, t3_open, f4_off, f4_ref, f4_node0, f4_open, mr12, t3_node ha1, f4_node ha1, t3_in ha2, f3_in ha2, f4_in ha2]
      exact okP.t rfl rfl rfl rfl (by decide)
    · skip
      simp only [T_X3_nextData, F_X4_nextData, T_X3_needEntry, T_X3_needTwoEntries, T_X3_needLive, T_X3_needBytes, F_X3_needEntry, F_X3_needTwoEntries, F_X3_needLive, F_X3_needBytes, F_X4_isRefused, F_X4_isRefusedNode, F_X4_isRefusedHandle, F_X4_isRefusedAt, F_X4_isRefusedUser, F_X4_isRefusedRow, F_X4_isRefusedBoth, F_X4_isName, xt_n, xt_s, xb1_s, xb2_s, xl_e, t3_pow, f3_pow, t3_node0, f3_node0, t3_open, f4_off, f4_ref, f4_node0, f4_open, mr12, t3_node ha1, f4_node ha1, t3_inx ha2, f4_inx ha2]
      exact okP.t rfl rfl rfl rfl (by decide)
set_option maxHeartbeats 2000000 in
set_option maxRecDepth 20000 in
theorem g_nextHole : ((List.range 321).all fun ia2 => ckP (F_X3_nextHole M0 0 (0 + (ia2 : Int))) (F_X4_nextHole MR 0 (0 + (ia2 : Int)))) = true := by decide +kernel
set_option maxHeartbeats 2000000 in
set_option maxRecDepth 20000 in
theorem p_nextHole (a1 : Int) (a2 : Int) : okP (F_X3_nextHole M0 a1 a2) (T_X3_nextHole M0 a1 a2) (F_X4_nextHole MR a1 a2) (fun E => if E = 1 then 1 else if E = 2 then 2 else if E = 3 then 3 else 0) := by
  by_cases ha1 : a1 = 0
  · subst ha1
    by_cases ha2 : (0 : Int) ≤ a2 ∧ a2 ≤ 320
    · skip
      obtain ⟨ia2, hia2, rfl⟩ := in_nat (n := 321) ha2 (by decide)
      exact ckP.ok (List.all_eq_true.mp g_nextHole ia2 (List.mem_range.mpr hia2))
    · skip
      simp only [T_X3_nextHole, F_X4_nextHole, T_X3_needEntry, T_X3_needTwoEntries, T_X3_needLive, T_X3_needBytes, F_X3_needEntry, F_X3_needTwoEntries, F_X3_needLive, F_X3_needBytes, F_X4_isRefused, F_X4_isRefusedNode, F_X4_isRefusedHandle, F_X4_isRefusedAt, F_X4_isRefusedUser, F_X4_isRefusedRow, F_X4_isRefusedBoth, F_X4_isName, xt_n, xt_s, xb1_s, xb2_s, xl_e, t3_pow, f3_pow, t3_node0, f3_node0, t3_open, f4_off, f4_ref, f4_node0, f4_open, mr12, t3_inx ha2, f4_inx ha2]
      exact okP.t rfl rfl rfl rfl (by decide)
  · skip
    by_cases ha2 : (0 : Int) ≤ a2 ∧ a2 ≤ 320
    · skip
      simp only [T_X3_nextHole, F_X4_nextHole, T_X3_needEntry, T_X3_needTwoEntries, T_X3_needLive, T_X3_needBytes, F_X3_needEntry, F_X3_needTwoEntries, F_X3_needLive, F_X3_needBytes, F_X4_isRefused, F_X4_isRefusedNode, F_X4_isRefusedHandle, F_X4_isRefusedAt, F_X4_isRefusedUser, F_X4_isRefusedRow, F_X4_isRefusedBoth, F_X4_isName, xt_n, xt_s, xb1_s, xb2_s, xl_e, t3_pow, f3_pow, t3_node0, f3_node0, t3_open, f4_off, f4_ref, f4_node0, f4_open, mr12, t3_node ha1, f4_node ha1, t3_in ha2, f3_in ha2, f4_in ha2]
      exact okP.t rfl rfl rfl rfl (by decide)
    · skip
      simp only [T_X3_nextHole, F_X4_nextHole, T_X3_needEntry, T_X3_needTwoEntries, T_X3_needLive, T_X3_needBytes, F_X3_needEntry, F_X3_needTwoEntries, F_X3_needLive, F_X3_needBytes, F_X4_isRefused, F_X4_isRefusedNode, F_X4_isRefusedHandle, F_X4_isRefusedAt, F_X4_isRefusedUser, F_X4_isRefusedRow, F_X4_isRefusedBoth, F_X4_isName, xt_n, xt_s, xb1_s, xb2_s, xl_e, t3_pow, f3_pow, t3_node0, f3_node0, t3_open, f4_off, f4_ref, f4_node0, f4_open, mr12, t3_node ha1, f4_node ha1, t3_inx ha2, f4_inx ha2]
      exact okP.t rfl rfl rfl rfl (by decide)
set_option maxHeartbeats 2000000 in
set_option maxRecDepth 20000 in
theorem g_sameBytes : (ckP (F_X3_sameBytes M0 0 0) (F_X4_sameBytes MR 0 0)) = true := by decide +kernel
set_option maxHeartbeats 2000000 in
set_option maxRecDepth 20000 in
theorem f4_rn0 : F_X4_isRefusedNode MR 0 = some (0, MR) := by
  unfold F_X4_isRefusedNode
  rw [f4_off, xb2_s, if_pos rfl, f4_node0, xb1_s, if_neg (by decide)]
theorem f4_rnx {a : Int} (h : a ≠ 0) : F_X4_isRefusedNode MR a = some (1, mup MR 0 0 12 2) := by
  unfold F_X4_isRefusedNode
  rw [f4_off, xb2_s, if_pos rfl, f4_node h]
  rfl
set_option maxHeartbeats 2000000 in
set_option maxRecDepth 20000 in
theorem p_sameBytes (a1 : Int) (a2 : Int) : okP (F_X3_sameBytes M0 a1 a2) (T_X3_sameBytes M0 a1 a2) (F_X4_sameBytes MR a1 a2) (fun E => if E = 1 then 1 else if E = 2 then 2 else 0) := by
  by_cases ha1 : a1 = 0
  · subst ha1
    by_cases ha2 : a2 = 0
    · subst ha2
      exact ckP.ok g_sameBytes
    · skip
      have e4 : F_X4_sameBytes MR 0 a2 = some (0, mup MR 0 0 12 2) := by
        unfold F_X4_sameBytes
        rw [f4_rn0, xb2_s, if_pos rfl, f4_rnx ha2, xb2_s, if_neg (by decide)]
      simp only [T_X3_sameBytes, T_X3_needEntry, T_X3_needTwoEntries, T_X3_needLive, T_X3_needBytes, F_X3_needEntry, F_X3_needTwoEntries, F_X3_needLive, F_X3_needBytes, xt_n, xt_s, xb1_s, xb2_s, xl_e, t3_pow, f3_pow, t3_node0, f3_node0, t3_open, f4_off, f4_ref, f4_node0, f4_open, mr12, t3_node ha2]
      exact okP.t rfl e4 rfl rfl (by decide)
  · skip
    by_cases ha2 : a2 = 0
    · subst ha2
      simp only [T_X3_sameBytes, F_X4_sameBytes, T_X3_needEntry, T_X3_needTwoEntries, T_X3_needLive, T_X3_needBytes, F_X3_needEntry, F_X3_needTwoEntries, F_X3_needLive, F_X3_needBytes, F_X4_isRefused, F_X4_isRefusedNode, F_X4_isRefusedHandle, F_X4_isRefusedAt, F_X4_isRefusedUser, F_X4_isRefusedRow, F_X4_isRefusedBoth, F_X4_isName, xt_n, xt_s, xb1_s, xb2_s, xl_e, t3_pow, f3_pow, t3_node0, f3_node0, t3_open, f4_off, f4_ref, f4_node0, f4_open, mr12, t3_node ha1, f4_node ha1]
      exact okP.t rfl rfl rfl rfl (by decide)
    · skip
      simp only [T_X3_sameBytes, F_X4_sameBytes, T_X3_needEntry, T_X3_needTwoEntries, T_X3_needLive, T_X3_needBytes, F_X3_needEntry, F_X3_needTwoEntries, F_X3_needLive, F_X3_needBytes, F_X4_isRefused, F_X4_isRefusedNode, F_X4_isRefusedHandle, F_X4_isRefusedAt, F_X4_isRefusedUser, F_X4_isRefusedRow, F_X4_isRefusedBoth, F_X4_isName, xt_n, xt_s, xb1_s, xb2_s, xl_e, t3_pow, f3_pow, t3_node0, f3_node0, t3_open, f4_off, f4_ref, f4_node0, f4_open, mr12, t3_node ha1, f4_node ha1, t3_node ha2, f4_node ha2]
      exact okP.t rfl rfl rfl rfl (by decide)
set_option maxHeartbeats 2000000 in
set_option maxRecDepth 20000 in
theorem g_lookup : ((List.range 99).all fun ia2 => ckP (F_X3_lookup M0 0 (1 + (ia2 : Int))) (F_X4_lookup MR 0 (1 + (ia2 : Int)))) = true := by decide +kernel
set_option maxHeartbeats 2000000 in
set_option maxRecDepth 20000 in
theorem p_lookup (a1 : Int) (a2 : Int) : okP (F_X3_lookup M0 a1 a2) (T_X3_lookup M0 a1 a2) (F_X4_lookup MR a1 a2) (fun E => if E = 1 then 1 else if E = 2 then 2 else if E = 3 then 3 else 0) := by
  by_cases ha1 : a1 = 0
  · subst ha1
    by_cases ha2 : (1 : Int) ≤ a2 ∧ a2 ≤ 99
    · skip
      obtain ⟨ia2, hia2, rfl⟩ := in_nat (n := 99) ha2 (by decide)
      exact ckP.ok (List.all_eq_true.mp g_lookup ia2 (List.mem_range.mpr hia2))
    · skip
      simp only [T_X3_lookup, F_X4_lookup, T_X3_needEntry, T_X3_needTwoEntries, T_X3_needLive, T_X3_needBytes, F_X3_needEntry, F_X3_needTwoEntries, F_X3_needLive, F_X3_needBytes, F_X4_isRefused, F_X4_isRefusedNode, F_X4_isRefusedHandle, F_X4_isRefusedAt, F_X4_isRefusedUser, F_X4_isRefusedRow, F_X4_isRefusedBoth, F_X4_isName, xt_n, xt_s, xb1_s, xb2_s, xl_e, t3_pow, f3_pow, t3_node0, f3_node0, t3_open, f4_off, f4_ref, f4_node0, f4_open, mr12, t3_inx ha2, f4_inx ha2]
      exact okP.t rfl rfl rfl rfl (by decide)
  · skip
    by_cases ha2 : (1 : Int) ≤ a2 ∧ a2 ≤ 99
    · skip
      simp only [T_X3_lookup, F_X4_lookup, T_X3_needEntry, T_X3_needTwoEntries, T_X3_needLive, T_X3_needBytes, F_X3_needEntry, F_X3_needTwoEntries, F_X3_needLive, F_X3_needBytes, F_X4_isRefused, F_X4_isRefusedNode, F_X4_isRefusedHandle, F_X4_isRefusedAt, F_X4_isRefusedUser, F_X4_isRefusedRow, F_X4_isRefusedBoth, F_X4_isName, xt_n, xt_s, xb1_s, xb2_s, xl_e, t3_pow, f3_pow, t3_node0, f3_node0, t3_open, f4_off, f4_ref, f4_node0, f4_open, mr12, t3_node ha1, f4_node ha1, t3_in ha2, f3_in ha2, f4_in ha2]
      exact okP.t rfl rfl rfl rfl (by decide)
    · skip
      simp only [T_X3_lookup, F_X4_lookup, T_X3_needEntry, T_X3_needTwoEntries, T_X3_needLive, T_X3_needBytes, F_X3_needEntry, F_X3_needTwoEntries, F_X3_needLive, F_X3_needBytes, F_X4_isRefused, F_X4_isRefusedNode, F_X4_isRefusedHandle, F_X4_isRefusedAt, F_X4_isRefusedUser, F_X4_isRefusedRow, F_X4_isRefusedBoth, F_X4_isName, xt_n, xt_s, xb1_s, xb2_s, xl_e, t3_pow, f3_pow, t3_node0, f3_node0, t3_open, f4_off, f4_ref, f4_node0, f4_open, mr12, t3_node ha1, f4_node ha1, t3_inx ha2, f4_inx ha2]
      exact okP.t rfl rfl rfl rfl (by decide)
set_option maxHeartbeats 2000000 in
set_option maxRecDepth 20000 in
theorem g_follow : ((List.range 99).all fun ia2 => ckI (F_X3_follow M0 0 (1 + (ia2 : Int))) (F_X4_follow MR 0 (1 + (ia2 : Int)))) = true := by decide +kernel
set_option maxHeartbeats 2000000 in
set_option maxRecDepth 20000 in
theorem p_follow (a1 : Int) (a2 : Int) : okI (F_X3_follow M0 a1 a2) (T_X3_follow M0 a1 a2) (F_X4_follow MR a1 a2) (fun E => if E = 1 then 1 else if E = 2 then 2 else if E = 3 then 3 else 0) := by
  by_cases ha1 : a1 = 0
  · subst ha1
    by_cases ha2 : (1 : Int) ≤ a2 ∧ a2 ≤ 99
    · skip
      obtain ⟨ia2, hia2, rfl⟩ := in_nat (n := 99) ha2 (by decide)
      exact ckI.ok (List.all_eq_true.mp g_follow ia2 (List.mem_range.mpr hia2))
    · skip
      simp only [T_X3_follow, F_X4_follow, T_X3_needEntry, T_X3_needTwoEntries, T_X3_needLive, T_X3_needBytes, F_X3_needEntry, F_X3_needTwoEntries, F_X3_needLive, F_X3_needBytes, F_X4_isRefused, F_X4_isRefusedNode, F_X4_isRefusedHandle, F_X4_isRefusedAt, F_X4_isRefusedUser, F_X4_isRefusedRow, F_X4_isRefusedBoth, F_X4_isName, xt_n, xt_s, xb1_s, xb2_s, xl_e, t3_pow, f3_pow, t3_node0, f3_node0, t3_open, f4_off, f4_ref, f4_node0, f4_open, mr12, t3_inx ha2, f4_inx ha2]
      exact okI.t rfl rfl rfl rfl (by decide)
  · skip
    by_cases ha2 : (1 : Int) ≤ a2 ∧ a2 ≤ 99
    · skip
      simp only [T_X3_follow, F_X4_follow, T_X3_needEntry, T_X3_needTwoEntries, T_X3_needLive, T_X3_needBytes, F_X3_needEntry, F_X3_needTwoEntries, F_X3_needLive, F_X3_needBytes, F_X4_isRefused, F_X4_isRefusedNode, F_X4_isRefusedHandle, F_X4_isRefusedAt, F_X4_isRefusedUser, F_X4_isRefusedRow, F_X4_isRefusedBoth, F_X4_isName, xt_n, xt_s, xb1_s, xb2_s, xl_e, t3_pow, f3_pow, t3_node0, f3_node0, t3_open, f4_off, f4_ref, f4_node0, f4_open, mr12, t3_node ha1, f4_node ha1, t3_in ha2, f3_in ha2, f4_in ha2]
      exact okI.t rfl rfl rfl rfl (by decide)
    · skip
      simp only [T_X3_follow, F_X4_follow, T_X3_needEntry, T_X3_needTwoEntries, T_X3_needLive, T_X3_needBytes, F_X3_needEntry, F_X3_needTwoEntries, F_X3_needLive, F_X3_needBytes, F_X4_isRefused, F_X4_isRefusedNode, F_X4_isRefusedHandle, F_X4_isRefusedAt, F_X4_isRefusedUser, F_X4_isRefusedRow, F_X4_isRefusedBoth, F_X4_isName, xt_n, xt_s, xb1_s, xb2_s, xl_e, t3_pow, f3_pow, t3_node0, f3_node0, t3_open, f4_off, f4_ref, f4_node0, f4_open, mr12, t3_node ha1, f4_node ha1, t3_inx ha2, f4_inx ha2]
      exact okI.t rfl rfl rfl rfl (by decide)
set_option maxHeartbeats 2000000 in
set_option maxRecDepth 20000 in
theorem g_parentOf : (ckP (F_X3_parentOf M0 0) (F_X4_parentOf MR 0)) = true := by decide +kernel
set_option maxHeartbeats 2000000 in
set_option maxRecDepth 20000 in
theorem p_parentOf (a1 : Int) : okP (F_X3_parentOf M0 a1) (T_X3_parentOf M0 a1) (F_X4_parentOf MR a1) (fun E => if E = 1 then 1 else if E = 2 then 2 else 0) := by
  by_cases ha1 : a1 = 0
  · subst ha1
    exact ckP.ok g_parentOf
  · skip
    simp only [T_X3_parentOf, F_X4_parentOf, T_X3_needEntry, T_X3_needTwoEntries, T_X3_needLive, T_X3_needBytes, F_X3_needEntry, F_X3_needTwoEntries, F_X3_needLive, F_X3_needBytes, F_X4_isRefused, F_X4_isRefusedNode, F_X4_isRefusedHandle, F_X4_isRefusedAt, F_X4_isRefusedUser, F_X4_isRefusedRow, F_X4_isRefusedBoth, F_X4_isName, xt_n, xt_s, xb1_s, xb2_s, xl_e, t3_pow, f3_pow, t3_node0, f3_node0, t3_open, f4_off, f4_ref, f4_node0, f4_open, mr12, t3_node ha1, f4_node ha1]
    exact okP.t rfl rfl rfl rfl (by decide)
set_option maxHeartbeats 2000000 in
set_option maxRecDepth 20000 in
theorem g_depthOf : (ckP (F_X3_depthOf M0 0) (F_X4_depthOf MR 0)) = true := by decide +kernel
set_option maxHeartbeats 2000000 in
set_option maxRecDepth 20000 in
theorem p_depthOf (a1 : Int) : okP (F_X3_depthOf M0 a1) (T_X3_depthOf M0 a1) (F_X4_depthOf MR a1) (fun E => if E = 1 then 1 else if E = 2 then 2 else 0) := by
  by_cases ha1 : a1 = 0
  · subst ha1
    exact ckP.ok g_depthOf
  · skip
    simp only [T_X3_depthOf, F_X4_depthOf, T_X3_needEntry, T_X3_needTwoEntries, T_X3_needLive, T_X3_needBytes, F_X3_needEntry, F_X3_needTwoEntries, F_X3_needLive, F_X3_needBytes, F_X4_isRefused, F_X4_isRefusedNode, F_X4_isRefusedHandle, F_X4_isRefusedAt, F_X4_isRefusedUser, F_X4_isRefusedRow, F_X4_isRefusedBoth, F_X4_isName, xt_n, xt_s, xb1_s, xb2_s, xl_e, t3_pow, f3_pow, t3_node0, f3_node0, t3_open, f4_off, f4_ref, f4_node0, f4_open, mr12, t3_node ha1, f4_node ha1]
    exact okP.t rfl rfl rfl rfl (by decide)
set_option maxHeartbeats 2000000 in
set_option maxRecDepth 20000 in
theorem g_isOrphan : (ckP (F_X3_isOrphan M0 0) (F_X4_isOrphan MR 0)) = true := by decide +kernel
set_option maxHeartbeats 2000000 in
set_option maxRecDepth 20000 in
theorem p_isOrphan (a1 : Int) : okP (F_X3_isOrphan M0 a1) (T_X3_isOrphan M0 a1) (F_X4_isOrphan MR a1) (fun E => if E = 1 then 1 else if E = 2 then 2 else 0) := by
  by_cases ha1 : a1 = 0
  · subst ha1
    exact ckP.ok g_isOrphan
  · skip
    simp only [T_X3_isOrphan, F_X4_isOrphan, T_X3_needEntry, T_X3_needTwoEntries, T_X3_needLive, T_X3_needBytes, F_X3_needEntry, F_X3_needTwoEntries, F_X3_needLive, F_X3_needBytes, F_X4_isRefused, F_X4_isRefusedNode, F_X4_isRefusedHandle, F_X4_isRefusedAt, F_X4_isRefusedUser, F_X4_isRefusedRow, F_X4_isRefusedBoth, F_X4_isName, xt_n, xt_s, xb1_s, xb2_s, xl_e, t3_pow, f3_pow, t3_node0, f3_node0, t3_open, f4_off, f4_ref, f4_node0, f4_open, mr12, t3_node ha1, f4_node ha1]
    exact okP.t rfl rfl rfl rfl (by decide)
set_option maxHeartbeats 2000000 in
set_option maxRecDepth 20000 in
theorem g_blocksUnder : (ckI (F_X3_blocksUnder M0 0) (F_X4_blocksUnder MR 0)) = true := by decide +kernel
set_option maxHeartbeats 2000000 in
set_option maxRecDepth 20000 in
theorem p_blocksUnder (a1 : Int) : okI (F_X3_blocksUnder M0 a1) (T_X3_blocksUnder M0 a1) (F_X4_blocksUnder MR a1) (fun E => if E = 1 then 1 else if E = 2 then 2 else 0) := by
  by_cases ha1 : a1 = 0
  · subst ha1
    exact ckI.ok g_blocksUnder
  · skip
    simp only [T_X3_blocksUnder, F_X4_blocksUnder, T_X3_needEntry, T_X3_needTwoEntries, T_X3_needLive, T_X3_needBytes, F_X3_needEntry, F_X3_needTwoEntries, F_X3_needLive, F_X3_needBytes, F_X4_isRefused, F_X4_isRefusedNode, F_X4_isRefusedHandle, F_X4_isRefusedAt, F_X4_isRefusedUser, F_X4_isRefusedRow, F_X4_isRefusedBoth, F_X4_isName, xt_n, xt_s, xb1_s, xb2_s, xl_e, t3_pow, f3_pow, t3_node0, f3_node0, t3_open, f4_off, f4_ref, f4_node0, f4_open, mr12, t3_node ha1, f4_node ha1]
    exact okI.t rfl rfl rfl rfl (by decide)
set_option maxHeartbeats 2000000 in
set_option maxRecDepth 20000 in
theorem g_wouldFree : (ckI (F_X3_wouldFree M0 0) (F_X4_wouldFree MR 0)) = true := by decide +kernel
set_option maxHeartbeats 2000000 in
set_option maxRecDepth 20000 in
theorem p_wouldFree (a1 : Int) : okI (F_X3_wouldFree M0 a1) (T_X3_wouldFree M0 a1) (F_X4_wouldFree MR a1) (fun E => if E = 1 then 1 else if E = 2 then 2 else 0) := by
  by_cases ha1 : a1 = 0
  · subst ha1
    exact ckI.ok g_wouldFree
  · skip
    simp only [T_X3_wouldFree, F_X4_wouldFree, T_X3_needEntry, T_X3_needTwoEntries, T_X3_needLive, T_X3_needBytes, F_X3_needEntry, F_X3_needTwoEntries, F_X3_needLive, F_X3_needBytes, F_X4_isRefused, F_X4_isRefusedNode, F_X4_isRefusedHandle, F_X4_isRefusedAt, F_X4_isRefusedUser, F_X4_isRefusedRow, F_X4_isRefusedBoth, F_X4_isName, xt_n, xt_s, xb1_s, xb2_s, xl_e, t3_pow, f3_pow, t3_node0, f3_node0, t3_open, f4_off, f4_ref, f4_node0, f4_open, mr12, t3_node ha1, f4_node ha1]
    exact okI.t rfl rfl rfl rfl (by decide)
set_option maxHeartbeats 2000000 in
set_option maxRecDepth 20000 in
theorem g_used : (ckP (F_X3_used M0) (F_X4_used_ MR)) = true := by decide +kernel
set_option maxHeartbeats 2000000 in
set_option maxRecDepth 20000 in
theorem p_used  : okP (F_X3_used M0) (T_X3_used M0) (F_X4_used_ MR) (fun E => if E = 1 then 1 else 0) := by
  exact ckP.ok g_used
set_option maxHeartbeats 2000000 in
set_option maxRecDepth 20000 in
theorem g_usedBy : ((List.range 4).all fun ia1 => ckP (F_X3_usedBy M0 (0 + (ia1 : Int))) (F_X4_usedBy_ MR (0 + (ia1 : Int)))) = true := by decide +kernel
set_option maxHeartbeats 2000000 in
set_option maxRecDepth 20000 in
theorem p_usedBy (a1 : Int) : okP (F_X3_usedBy M0 a1) (T_X3_usedBy M0 a1) (F_X4_usedBy_ MR a1) (fun E => if E = 1 then 1 else if E = 3 then 2 else 0) := by
  by_cases ha1 : (0 : Int) ≤ a1 ∧ a1 ≤ 3
  · skip
    obtain ⟨ia1, hia1, rfl⟩ := in_nat (n := 4) ha1 (by decide)
    exact ckP.ok (List.all_eq_true.mp g_usedBy ia1 (List.mem_range.mpr hia1))
  · skip
    simp only [T_X3_usedBy, F_X4_usedBy_, T_X3_needEntry, T_X3_needTwoEntries, T_X3_needLive, T_X3_needBytes, F_X3_needEntry, F_X3_needTwoEntries, F_X3_needLive, F_X3_needBytes, F_X4_isRefused, F_X4_isRefusedNode, F_X4_isRefusedHandle, F_X4_isRefusedAt, F_X4_isRefusedUser, F_X4_isRefusedRow, F_X4_isRefusedBoth, F_X4_isName, xt_n, xt_s, xb1_s, xb2_s, xl_e, t3_pow, f3_pow, t3_node0, f3_node0, t3_open, f4_off, f4_ref, f4_node0, f4_open, mr12, t3_inx ha1, f4_inx ha1]
    exact okP.t rfl rfl rfl rfl (by decide)
set_option maxHeartbeats 2000000 in
set_option maxRecDepth 20000 in
theorem g_quotaOf : ((List.range 4).all fun ia1 => ckP (F_X3_quotaOf M0 (0 + (ia1 : Int))) (F_X4_quotaOf MR (0 + (ia1 : Int)))) = true := by decide +kernel
set_option maxHeartbeats 2000000 in
set_option maxRecDepth 20000 in
theorem p_quotaOf (a1 : Int) : okP (F_X3_quotaOf M0 a1) (T_X3_quotaOf M0 a1) (F_X4_quotaOf MR a1) (fun E => if E = 1 then 1 else if E = 3 then 2 else 0) := by
  by_cases ha1 : (0 : Int) ≤ a1 ∧ a1 ≤ 3
  · skip
    obtain ⟨ia1, hia1, rfl⟩ := in_nat (n := 4) ha1 (by decide)
    exact ckP.ok (List.all_eq_true.mp g_quotaOf ia1 (List.mem_range.mpr hia1))
  · skip
    simp only [T_X3_quotaOf, F_X4_quotaOf, T_X3_needEntry, T_X3_needTwoEntries, T_X3_needLive, T_X3_needBytes, F_X3_needEntry, F_X3_needTwoEntries, F_X3_needLive, F_X3_needBytes, F_X4_isRefused, F_X4_isRefusedNode, F_X4_isRefusedHandle, F_X4_isRefusedAt, F_X4_isRefusedUser, F_X4_isRefusedRow, F_X4_isRefusedBoth, F_X4_isName, xt_n, xt_s, xb1_s, xb2_s, xl_e, t3_pow, f3_pow, t3_node0, f3_node0, t3_open, f4_off, f4_ref, f4_node0, f4_open, mr12, t3_inx ha1, f4_inx ha1]
    exact okP.t rfl rfl rfl rfl (by decide)
set_option maxHeartbeats 2000000 in
set_option maxRecDepth 20000 in
theorem g_greatestFile : (ckP (F_X3_greatestFile M0) (F_X4_greatestFile MR)) = true := by decide +kernel
set_option maxHeartbeats 2000000 in
set_option maxRecDepth 20000 in
theorem p_greatestFile  : okP (F_X3_greatestFile M0) (T_X3_greatestFile M0) (F_X4_greatestFile MR) (fun E => if E = 1 then 1 else 0) := by
  exact ckP.ok g_greatestFile
set_option maxHeartbeats 2000000 in
set_option maxRecDepth 20000 in
theorem g_flaws : (ckP (F_X3_flaws M0) (F_X4_flaws MR)) = true := by decide +kernel
set_option maxHeartbeats 2000000 in
set_option maxRecDepth 20000 in
theorem p_flaws  : okP (F_X3_flaws M0) (T_X3_flaws M0) (F_X4_flaws MR) (fun E => if E = 1 then 1 else 0) := by
  exact ckP.ok g_flaws
