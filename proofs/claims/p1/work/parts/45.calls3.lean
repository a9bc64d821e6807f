theorem okL_digest : ∃ r M' Mr', F_X3_digest M0 = some (r, M') ∧ F_X4_digest MR = some (r, Mr') ∧ F_X4_thrown Mr' = some 0 := by
  have h1 := pe_digest
  have h2 := pt_digest
  cases e3 : F_X3_digest M0 with
  | none =>
    rw [e3] at h1
    cases e4 : F_X4_digest MR with
    | none =>
      rw [e4] at h2
      simp at h2
    | some z =>
      rw [e4] at h1
      simp at h1
  | some y =>
    rw [e3] at h1
    cases e4 : F_X4_digest MR with
    | none =>
      rw [e4] at h2
      simp at h2
    | some z =>
      rw [e4] at h1 h2
      obtain ⟨r, M1⟩ := y
      obtain ⟨r2, M2⟩ := z
      have e : r = r2 := Option.some.inj h1
      subst e
      exact ⟨r, M1, M2, rfl, rfl, h2⟩
theorem p_isDown : ∃ r Mr', F_X3_isDown M0 = some r ∧ F_X4_isDown MR = some (r, Mr') := ⟨_, _, rfl, rfl⟩
theorem p_mounts : ∃ r Mr', F_X3_mounts M0 = some r ∧ F_X4_mounts MR = some (r, Mr') := ⟨_, _, rfl, rfl⟩
theorem p_meanSize : ∃ r Mr', F_X3_meanSize M0 = some r ∧ F_X4_meanSize MR = some (r, Mr') ∧ F_X4_thrown Mr' = some 0 ∧ ∀ op, Op.cmpValue (FP.dcmp r r) op = 0 := by
  have e3 : F_X3_meanSize M0 = some FP.dconst0 := by decide +kernel
  have e4 : (F_X4_meanSize MR).map (·.1) = some FP.dconst0 := by decide +kernel
  have e5 : ((F_X4_meanSize MR).bind fun y => F_X4_thrown y.2) = some 0 := by decide +kernel
  have ec : FP.dcmp FP.dconst0 FP.dconst0 = some .eq := by decide +kernel
  cases e : F_X4_meanSize MR with
  | none =>
    rw [e] at e4
    simp at e4
  | some z =>
    obtain ⟨r, M2⟩ := z
    rw [e] at e4 e5
    have er : r = FP.dconst0 := Option.some.inj e4
    subst er
    exact ⟨_, M2, e3, rfl, e5, fun op => by rw [ec]; rfl⟩
set_option maxHeartbeats 2000000 in
set_option maxRecDepth 20000 in
theorem g_typeOf : ((List.range 32).all fun i => ckP (F_X3_typeOf M0 (0 + (i : Int))) (F_X4_typeOf MR (0 + (i : Int)))) = true := by decide +kernel
set_option maxHeartbeats 2000000 in
set_option maxRecDepth 20000 in
theorem p_typeOf (a1 : Int) : okP (F_X3_typeOf M0 a1) (T_X3_typeOf M0 a1) (F_X4_typeOf MR a1) (fun E => if E = 1 then 1 else 0) := by
  by_cases h : (0 : Int) ≤ a1 ∧ a1 ≤ 31
  · obtain ⟨i, hi, rfl⟩ := in_nat (n := 32) h (by decide)
    exact ckP.ok (List.all_eq_true.mp g_typeOf i (List.mem_range.mpr hi))
  · simp only [F_X3_typeOf, F_X4_typeOf, xb1_s, xb2_s, f3_pow, f4_off, f4_inx h, m0_l, show ((0 : Int).toNat) = 0 from rfl, at_out (show ¬ (0 ≤ a1 ∧ a1 < 32) by omega)]
    exact okP.n rfl rfl rfl
set_option maxHeartbeats 2000000 in
set_option maxRecDepth 20000 in
theorem p_nameAt (a1 a2 : Int) : okP (F_X3_nameAt M0 a1 a2) (T_X3_nameAt M0 a1 a2) (F_X4_nameAt MR a1 a2) (fun E => if E = 1 then 1 else if E = 2 then 2 else 0) := by
  by_cases h : a1 = 0
  · subst h
    have e3 : F_X3_nameAt M0 0 a2 = some (-1) := by
      show xb1 (F_X1_nameOf M0 0 a2) (fun y => some y) = _
      unfold F_X1_nameOf
      by_cases q : a2 < 0
      · rw [if_pos q]
        rfl
      · rw [if_neg q, if_pos (show (M0 2 0 8) ≤ a2 from by show (0 : Int) ≤ a2; omega)]
        rfl
    have e5 : F_X4_entries MR 1 0 = some 0 := by eq_refl
    have e6 : F_X4_is MR 1 0 2 = some 1 := by eq_refl
    have e4 : F_X4_nameAt MR 0 a2 = some (-1, MR) := by
      unfold F_X4_nameAt
      rw [f4_rn0, xb2_s, if_pos rfl, e6, xb1_s, if_neg (by decide), e5, xb1_s, xk_t (by decide), f4_inx (by omega), xb1_s, if_pos rfl]
    exact okP.n e3 e4 thr_0
  · simp only [T_X3_nameAt, F_X4_nameAt, T_X3_needEntry, T_X3_needTwoEntries, T_X3_needLive, T_X3_needBytes, F_X3_needEntry, F_X3_needTwoEntries, F_X3_needLive, F_X3_needBytes, F_X4_isRefused, F_X4_isRefusedNode, F_X4_isRefusedHandle, F_X4_isRefusedAt, F_X4_isRefusedUser, F_X4_isRefusedRow, F_X4_isRefusedBoth, F_X4_isName, xt_n, xt_s, xb1_s, xb2_s, xl_e, t3_pow, f3_pow, t3_node0, f3_node0, t3_open, f4_off, f4_ref, f4_node0, f4_open, mr12, t3_node h, f4_node h]
    exact okP.t rfl rfl rfl rfl (by decide)
set_option maxHeartbeats 2000000 in
set_option maxRecDepth 20000 in
theorem p_writeBack (a1 a2 : Int) : okU (F_X3_writeBack M0 a1 a2) (T_X3_writeBack M0 a1 a2) (F_X4_writeBack MR a1 a2) (fun E => if E = 1 then 1 else if E = 3 then 2 else 0) := by
  by_cases h : (0 : Int) ≤ a2 ∧ a2 ≤ 50
  · simp only [F_X3_writeBack, F_X4_writeBack, xt_n, xt_s, xb1_s, xb2_s, xl_e, t3_pow, f3_pow, t3_node0, f3_node0, t3_open, f4_off, f4_ref, f4_node0, f4_open, mr12, f3_in h, f4_in h]
    exact okU.n rfl rfl rfl
  · simp only [T_X3_writeBack, F_X4_writeBack, xt_n, xt_s, xb1_s, xb2_s, xl_e, t3_pow, f3_pow, t3_node0, f3_node0, t3_open, f4_off, f4_ref, f4_node0, f4_open, mr12, t3_inx h, f4_inx h]
    exact okU.t rfl rfl rfl rfl (by decide)
set_option maxHeartbeats 2000000 in
set_option maxRecDepth 20000 in
theorem p_fail (a1 a2 a3 : Int) : okV (F_X3_fail M0 a1 a2 a3) (T_X3_fail M0 a1 a2 a3) (F_X4_fail MR a1 a2 a3) (fun E => if E = 3 then 1 else 0) := by
  by_cases h1 : (0 : Int) ≤ a1 ∧ a1 ≤ 3
  · by_cases h2 : (1 : Int) ≤ a2 ∧ a2 ≤ 40
    · by_cases h3 : (0 : Int) ≤ a3 ∧ a3 ≤ 40
      · simp only [F_X3_fail, F_X4_fail, xt_n, xt_s, xb1_s, xb2_s, xl_e, t3_pow, f3_pow, t3_node0, f3_node0, t3_open, f4_off, f4_ref, f4_node0, f4_open, mr12, f3_in h1, f4_in h1, f3_in h2, f4_in h2, f3_in h3, f4_in h3]
        exact okV.n rfl rfl rfl
      · simp only [T_X3_fail, F_X4_fail, xt_n, xt_s, xb1_s, xb2_s, xl_e, t3_pow, f3_pow, t3_node0, f3_node0, t3_open, f4_off, f4_ref, f4_node0, f4_open, mr12, f3_in h1, f4_in h1, f3_in h2, f4_in h2, t3_in h1, t3_in h2, t3_inx h3, f4_inx h3]
        exact okV.t rfl rfl rfl rfl (by decide)
    · simp only [T_X3_fail, F_X4_fail, xt_n, xt_s, xb1_s, xb2_s, xl_e, t3_pow, f3_pow, t3_node0, f3_node0, t3_open, f4_off, f4_ref, f4_node0, f4_open, mr12, f3_in h1, f4_in h1, t3_in h1, t3_inx h2, f4_inx h2]
      exact okV.t rfl rfl rfl rfl (by decide)
  · simp only [T_X3_fail, F_X4_fail, xt_n, xt_s, xb1_s, xb2_s, xl_e, t3_pow, f3_pow, t3_node0, f3_node0, t3_open, f4_off, f4_ref, f4_node0, f4_open, mr12, t3_inx h1, f4_inx h1]
    exact okV.t rfl rfl rfl rfl (by decide)
set_option maxHeartbeats 2000000 in
set_option maxRecDepth 20000 in
theorem g_none3 : ((List.range 99).all fun i => decide (F_X1_nodeNamed M0 0 (1 + (i : Int)) = some (-1))) = true := by decide +kernel
set_option maxHeartbeats 2000000 in
set_option maxRecDepth 20000 in
theorem g_none4 : ((List.range 99).all fun i => decide (F_X4_nodeAt MR 1 0 (1 + (i : Int)) = some (-1))) = true := by decide +kernel
set_option maxHeartbeats 2000000 in
set_option maxRecDepth 20000 in
theorem g_where4 : ((List.range 99).all fun i => decide (F_X4_where MR 1 0 (1 + (i : Int)) = some (-1))) = true := by decide +kernel
theorem none3 {a : Int} (h : (1 : Int) ≤ a ∧ a ≤ 99) : F_X1_nodeNamed M0 0 a = some (-1) := by
  obtain ⟨i, hi, rfl⟩ := in_nat (n := 99) h (by decide)
  exact of_decide_eq_true (List.all_eq_true.mp g_none3 i (List.mem_range.mpr hi))
theorem none4 {a : Int} (h : (1 : Int) ≤ a ∧ a ≤ 99) : F_X4_nodeAt MR 1 0 a = some (-1) := by
  obtain ⟨i, hi, rfl⟩ := in_nat (n := 99) h (by decide)
  exact of_decide_eq_true (List.all_eq_true.mp g_none4 i (List.mem_range.mpr hi))
theorem where4 {a : Int} (h : (1 : Int) ≤ a ∧ a ≤ 99) : F_X4_where MR 1 0 a = some (-1) := by
  obtain ⟨i, hi, rfl⟩ := in_nat (n := 99) h (by decide)
  exact of_decide_eq_true (List.all_eq_true.mp g_where4 i (List.mem_range.mpr hi))
theorem xb2_id {α β : Type} {x : Option (α × β)} : (xb2 x fun y M => some (y, M)) = x := by cases x <;> rfl
theorem at0_3 : F_X2_at M0 0 0 = some 0 := rfl
theorem is2_4 : F_X4_is MR 1 0 2 = some 1 := rfl
theorem m0s : M0 2 0 0 = 2 := rfl
set_option maxHeartbeats 2000000 in
set_option maxRecDepth 20000 in
theorem p_rename (a1 : Int) (a2 : Int) (a3 : Int) (a4 : Int) : okI (F_X3_rename M0 a1 a2 a3 a4) (T_X3_rename M0 a1 a2 a3 a4) (F_X4_rename MR a1 a2 a3 a4) (fun E => if E = 1 then 1 else if E = 2 then 2 else if E = 3 then 3 else 0) := by
  by_cases ha1 : a1 = 0
  · subst ha1
    by_cases ha2 : (1 : Int) ≤ a2 ∧ a2 ≤ 99
    · skip
      by_cases ha3 : a3 = 0
      · subst ha3
        by_cases ha4 : (1 : Int) ≤ a4 ∧ a4 ≤ 99
        · skip
          have e3 : F_X3_rename M0 0 a2 0 a4 = some (-1, M0) := by
            simp only [F_X3_rename, F_X3_needTwoEntries, xt_n, xt_s, xb1_s, xb2_s, xl_e, t3_pow, f3_pow, t3_node0, f3_node0, t3_open, f4_off, f4_ref, f4_node0, f4_open, mr12, f3_in ha2, f3_in ha4, m0_l, show ((0 : Int).toNat) = 0 from rfl, at0_3, m0s, none3 ha2, none3 ha4]
            rfl
          have e4 : F_X4_rename MR 0 a2 0 a4 = some (-1, MR) := by
            simp only [F_X4_rename, F_X4_isRefusedBoth, F_X4_isName, xt_n, xt_s, xb1_s, xb2_s, xl_e, t3_pow, f3_pow, t3_node0, f3_node0, t3_open, f4_off, f4_ref, f4_node0, f4_open, mr12, f4_in ha2, f4_in ha4, is2_4, none4 ha2, none4 ha4, where4 ha2, where4 ha4]
            rfl
          exact okI.n e3 e4 thr_0
        · skip
          simp only [T_X3_rename, F_X4_rename, F_X4_rename_139, T_X3_rename_87, T_X3_needEntry, T_X3_needTwoEntries, T_X3_needLive, T_X3_needBytes, F_X3_needEntry, F_X3_needTwoEntries, F_X3_needLive, F_X3_needBytes, F_X4_isRefused, F_X4_isRefusedNode, F_X4_isRefusedHandle, F_X4_isRefusedAt, F_X4_isRefusedUser, F_X4_isRefusedRow, F_X4_isRefusedBoth, F_X4_isName, xt_n, xt_s, xb1_s, xb2_s, xl_e, t3_pow, f3_pow, t3_node0, f3_node0, t3_open, f4_off, f4_ref, f4_node0, f4_open, mr12, t3_in ha2, f3_in ha2, f4_in ha2, t3_inx ha4, f4_inx ha4]
          exact okI.t rfl rfl rfl rfl (by decide)
      · skip
        by_cases ha4 : (1 : Int) ≤ a4 ∧ a4 ≤ 99
        · skip
          simp only [T_X3_rename, F_X4_rename, F_X4_rename_139, T_X3_rename_87, T_X3_needEntry, T_X3_needTwoEntries, T_X3_needLive, T_X3_needBytes, F_X3_needEntry, F_X3_needTwoEntries, F_X3_needLive, F_X3_needBytes, F_X4_isRefused, F_X4_isRefusedNode, F_X4_isRefusedHandle, F_X4_isRefusedAt, F_X4_isRefusedUser, F_X4_isRefusedRow, F_X4_isRefusedBoth, F_X4_isName, xt_n, xt_s, xb1_s, xb2_s, xl_e, t3_pow, f3_pow, t3_node0, f3_node0, t3_open, f4_off, f4_ref, f4_node0, f4_open, mr12, t3_in ha2, f3_in ha2, f4_in ha2, t3_node ha3, f4_node ha3, t3_in ha4, f3_in ha4, f4_in ha4]
          exact okI.t rfl rfl rfl rfl (by decide)
        · skip
          simp only [T_X3_rename, F_X4_rename, F_X4_rename_139, T_X3_rename_87, T_X3_needEntry, T_X3_needTwoEntries, T_X3_needLive, T_X3_needBytes, F_X3_needEntry, F_X3_needTwoEntries, F_X3_needLive, F_X3_needBytes, F_X4_isRefused, F_X4_isRefusedNode, F_X4_isRefusedHandle, F_X4_isRefusedAt, F_X4_isRefusedUser, F_X4_isRefusedRow, F_X4_isRefusedBoth, F_X4_isName, xt_n, xt_s, xb1_s, xb2_s, xl_e, t3_pow, f3_pow, t3_node0, f3_node0, t3_open, f4_off, f4_ref, f4_node0, f4_open, mr12, t3_in ha2, f3_in ha2, f4_in ha2, t3_node ha3, f4_node ha3, t3_inx ha4, f4_inx ha4]
          exact okI.t rfl rfl rfl rfl (by decide)
    · skip
      by_cases ha3 : a3 = 0
      · subst ha3
        by_cases ha4 : (1 : Int) ≤ a4 ∧ a4 ≤ 99
        · skip
          simp only [T_X3_rename, F_X4_rename, F_X4_rename_139, T_X3_rename_87, T_X3_needEntry, T_X3_needTwoEntries, T_X3_needLive, T_X3_needBytes, F_X3_needEntry, F_X3_needTwoEntries, F_X3_needLive, F_X3_needBytes, F_X4_isRefused, F_X4_isRefusedNode, F_X4_isRefusedHandle, F_X4_isRefusedAt, F_X4_isRefusedUser, F_X4_isRefusedRow, F_X4_isRefusedBoth, F_X4_isName, xt_n, xt_s, xb1_s, xb2_s, xl_e, t3_pow, f3_pow, t3_node0, f3_node0, t3_open, f4_off, f4_ref, f4_node0, f4_open, mr12, t3_inx ha2, f4_inx ha2, t3_in ha4, f3_in ha4, f4_in ha4]
          exact okI.t rfl rfl rfl rfl (by decide)
        · skip
          simp only [T_X3_rename, F_X4_rename, F_X4_rename_139, T_X3_rename_87, T_X3_needEntry, T_X3_needTwoEntries, T_X3_needLive, T_X3_needBytes, F_X3_needEntry, F_X3_needTwoEntries, F_X3_needLive, F_X3_needBytes, F_X4_isRefused, F_X4_isRefusedNode, F_X4_isRefusedHandle, F_X4_isRefusedAt, F_X4_isRefusedUser, F_X4_isRefusedRow, F_X4_isRefusedBoth, F_X4_isName, xt_n, xt_s, xb1_s, xb2_s, xl_e, t3_pow, f3_pow, t3_node0, f3_node0, t3_open, f4_off, f4_ref, f4_node0, f4_open, mr12, t3_inx ha2, f4_inx ha2, t3_inx ha4, f4_inx ha4]
          exact okI.t rfl rfl rfl rfl (by decide)
      · skip
        by_cases ha4 : (1 : Int) ≤ a4 ∧ a4 ≤ 99
        · skip
          simp only [T_X3_rename, F_X4_rename, F_X4_rename_139, T_X3_rename_87, T_X3_needEntry, T_X3_needTwoEntries, T_X3_needLive, T_X3_needBytes, F_X3_needEntry, F_X3_needTwoEntries, F_X3_needLive, F_X3_needBytes, F_X4_isRefused, F_X4_isRefusedNode, F_X4_isRefusedHandle, F_X4_isRefusedAt, F_X4_isRefusedUser, F_X4_isRefusedRow, F_X4_isRefusedBoth, F_X4_isName, xt_n, xt_s, xb1_s, xb2_s, xl_e, t3_pow, f3_pow, t3_node0, f3_node0, t3_open, f4_off, f4_ref, f4_node0, f4_open, mr12, t3_inx ha2, f4_inx ha2, t3_node ha3, f4_node ha3, t3_in ha4, f3_in ha4, f4_in ha4]
          exact okI.t rfl rfl rfl rfl (by decide)
        · skip
          simp only [T_X3_rename, F_X4_rename, F_X4_rename_139, T_X3_rename_87, T_X3_needEntry, T_X3_needTwoEntries, T_X3_needLive, T_X3_needBytes, F_X3_needEntry, F_X3_needTwoEntries, F_X3_needLive, F_X3_needBytes, F_X4_isRefused, F_X4_isRefusedNode, F_X4_isRefusedHandle, F_X4_isRefusedAt, F_X4_isRefusedUser, F_X4_isRefusedRow, F_X4_isRefusedBoth, F_X4_isName, xt_n, xt_s, xb1_s, xb2_s, xl_e, t3_pow, f3_pow, t3_node0, f3_node0, t3_open, f4_off, f4_ref, f4_node0, f4_open, mr12, t3_inx ha2, f4_inx ha2, t3_node ha3, f4_node ha3, t3_inx ha4, f4_inx ha4]
          exact okI.t rfl rfl rfl rfl (by decide)
  · skip
    by_cases ha2 : (1 : Int) ≤ a2 ∧ a2 ≤ 99
    · skip
      by_cases ha3 : a3 = 0
      · subst ha3
        by_cases ha4 : (1 : Int) ≤ a4 ∧ a4 ≤ 99
        · skip
          simp only [T_X3_rename, F_X4_rename, F_X4_rename_139, T_X3_rename_87, T_X3_needEntry, T_X3_needTwoEntries, T_X3_needLive, T_X3_needBytes, F_X3_needEntry, F_X3_needTwoEntries, F_X3_needLive, F_X3_needBytes, F_X4_isRefused, F_X4_isRefusedNode, F_X4_isRefusedHandle, F_X4_isRefusedAt, F_X4_isRefusedUser, F_X4_isRefusedRow, F_X4_isRefusedBoth, F_X4_isName, xt_n, xt_s, xb1_s, xb2_s, xl_e, t3_pow, f3_pow, t3_node0, f3_node0, t3_open, f4_off, f4_ref, f4_node0, f4_open, mr12, t3_node ha1, f4_node ha1, t3_in ha2, f3_in ha2, f4_in ha2, t3_in ha4, f3_in ha4, f4_in ha4]
          exact okI.t rfl rfl rfl rfl (by decide)
        · skip
          simp only [T_X3_rename, F_X4_rename, F_X4_rename_139, T_X3_rename_87, T_X3_needEntry, T_X3_needTwoEntries, T_X3_needLive, T_X3_needBytes, F_X3_needEntry, F_X3_needTwoEntries, F_X3_needLive, F_X3_needBytes, F_X4_isRefused, F_X4_isRefusedNode, F_X4_isRefusedHandle, F_X4_isRefusedAt, F_X4_isRefusedUser, F_X4_isRefusedRow, F_X4_isRefusedBoth, F_X4_isName, xt_n, xt_s, xb1_s, xb2_s, xl_e, t3_pow, f3_pow, t3_node0, f3_node0, t3_open, f4_off, f4_ref, f4_node0, f4_open, mr12, t3_node ha1, f4_node ha1, t3_in ha2, f3_in ha2, f4_in ha2, t3_inx ha4, f4_inx ha4]
          exact okI.t rfl rfl rfl rfl (by decide)
      · skip
        by_cases ha4 : (1 : Int) ≤ a4 ∧ a4 ≤ 99
        · skip
          simp only [T_X3_rename, F_X4_rename, F_X4_rename_139, T_X3_rename_87, T_X3_needEntry, T_X3_needTwoEntries, T_X3_needLive, T_X3_needBytes, F_X3_needEntry, F_X3_needTwoEntries, F_X3_needLive, F_X3_needBytes, F_X4_isRefused, F_X4_isRefusedNode, F_X4_isRefusedHandle, F_X4_isRefusedAt, F_X4_isRefusedUser, F_X4_isRefusedRow, F_X4_isRefusedBoth, F_X4_isName, xt_n, xt_s, xb1_s, xb2_s, xl_e, t3_pow, f3_pow, t3_node0, f3_node0, t3_open, f4_off, f4_ref, f4_node0, f4_open, mr12, t3_node ha1, f4_node ha1, t3_in ha2, f3_in ha2, f4_in ha2, t3_node ha3, f4_node ha3, t3_in ha4, f3_in ha4, f4_in ha4]
          exact okI.t rfl rfl rfl rfl (by decide)
        · skip
          simp only [T_X3_rename, F_X4_rename, F_X4_rename_139, T_X3_rename_87, T_X3_needEntry, T_X3_needTwoEntries, T_X3_needLive, T_X3_needBytes, F_X3_needEntry, F_X3_needTwoEntries, F_X3_needLive, F_X3_needBytes, F_X4_isRefused, F_X4_isRefusedNode, F_X4_isRefusedHandle, F_X4_isRefusedAt, F_X4_isRefusedUser, F_X4_isRefusedRow, F_X4_isRefusedBoth, F_X4_isName, xt_n, xt_s, xb1_s, xb2_s, xl_e, t3_pow, f3_pow, t3_node0, f3_node0, t3_open, f4_off, f4_ref, f4_node0, f4_open, mr12, t3_node ha1, f4_node ha1, t3_in ha2, f3_in ha2, f4_in ha2, t3_node ha3, f4_node ha3, t3_inx ha4, f4_inx ha4]
          exact okI.t rfl rfl rfl rfl (by decide)
    · skip
      by_cases ha3 : a3 = 0
      · subst ha3
        by_cases ha4 : (1 : Int) ≤ a4 ∧ a4 ≤ 99
        · skip
          simp only [T_X3_rename, F_X4_rename, F_X4_rename_139, T_X3_rename_87, T_X3_needEntry, T_X3_needTwoEntries, T_X3_needLive, T_X3_needBytes, F_X3_needEntry, F_X3_needTwoEntries, F_X3_needLive, F_X3_needBytes, F_X4_isRefused, F_X4_isRefusedNode, F_X4_isRefusedHandle, F_X4_isRefusedAt, F_X4_isRefusedUser, F_X4_isRefusedRow, F_X4_isRefusedBoth, F_X4_isName, xt_n, xt_s, xb1_s, xb2_s, xl_e, t3_pow, f3_pow, t3_node0, f3_node0, t3_open, f4_off, f4_ref, f4_node0, f4_open, mr12, t3_node ha1, f4_node ha1, t3_inx ha2, f4_inx ha2, t3_in ha4, f3_in ha4, f4_in ha4]
          exact okI.t rfl rfl rfl rfl (by decide)
        · skip
          simp only [T_X3_rename, F_X4_rename, F_X4_rename_139, T_X3_rename_87, T_X3_needEntry, T_X3_needTwoEntries, T_X3_needLive, T_X3_needBytes, F_X3_needEntry, F_X3_needTwoEntries, F_X3_needLive, F_X3_needBytes, F_X4_isRefused, F_X4_isRefusedNode, F_X4_isRefusedHandle, F_X4_isRefusedAt, F_X4_isRefusedUser, F_X4_isRefusedRow, F_X4_isRefusedBoth, F_X4_isName, xt_n, xt_s, xb1_s, xb2_s, xl_e, t3_pow, f3_pow, t3_node0, f3_node0, t3_open, f4_off, f4_ref, f4_node0, f4_open, mr12, t3_node ha1, f4_node ha1, t3_inx ha2, f4_inx ha2, t3_inx ha4, f4_inx ha4]
          exact okI.t rfl rfl rfl rfl (by decide)
      · skip
        by_cases ha4 : (1 : Int) ≤ a4 ∧ a4 ≤ 99
        · skip
          simp only [T_X3_rename, F_X4_rename, F_X4_rename_139, T_X3_rename_87, T_X3_needEntry, T_X3_needTwoEntries, T_X3_needLive, T_X3_needBytes, F_X3_needEntry, F_X3_needTwoEntries, F_X3_needLive, F_X3_needBytes, F_X4_isRefused, F_X4_isRefusedNode, F_X4_isRefusedHandle, F_X4_isRefusedAt, F_X4_isRefusedUser, F_X4_isRefusedRow, F_X4_isRefusedBoth, F_X4_isName, xt_n, xt_s, xb1_s, xb2_s, xl_e, t3_pow, f3_pow, t3_node0, f3_node0, t3_open, f4_off, f4_ref, f4_node0, f4_open, mr12, t3_node ha1, f4_node ha1, t3_inx ha2, f4_inx ha2, t3_node ha3, f4_node ha3, t3_in ha4, f3_in ha4, f4_in ha4]
          exact okI.t rfl rfl rfl rfl (by decide)
        · skip
          simp only [T_X3_rename, F_X4_rename, F_X4_rename_139, T_X3_rename_87, T_X3_needEntry, T_X3_needTwoEntries, T_X3_needLive, T_X3_needBytes, F_X3_needEntry, F_X3_needTwoEntries, F_X3_needLive, F_X3_needBytes, F_X4_isRefused, F_X4_isRefusedNode, F_X4_isRefusedHandle, F_X4_isRefusedAt, F_X4_isRefusedUser, F_X4_isRefusedRow, F_X4_isRefusedBoth, F_X4_isName, xt_n, xt_s, xb1_s, xb2_s, xl_e, t3_pow, f3_pow, t3_node0, f3_node0, t3_open, f4_off, f4_ref, f4_node0, f4_open, mr12, t3_node ha1, f4_node ha1, t3_inx ha2, f4_inx ha2, t3_node ha3, f4_node ha3, t3_inx ha4, f4_inx ha4]
          exact okI.t rfl rfl rfl rfl (by decide)
set_option maxHeartbeats 2000000 in
set_option maxRecDepth 20000 in
theorem p_exchange (a1 : Int) (a2 : Int) (a3 : Int) (a4 : Int) : okI (F_X3_exchange M0 a1 a2 a3 a4) (T_X3_exchange M0 a1 a2 a3 a4) (F_X4_exchange MR a1 a2 a3 a4) (fun E => if E = 1 then 1 else if E = 2 then 2 else if E = 3 then 3 else 0) := by
  by_cases ha1 : a1 = 0
  · subst ha1
    by_cases ha2 : (1 : Int) ≤ a2 ∧ a2 ≤ 99
    · skip
      by_cases ha3 : a3 = 0
      · subst ha3
        by_cases ha4 : (1 : Int) ≤ a4 ∧ a4 ≤ 99
        · skip
          have e3 : F_X3_exchange M0 0 a2 0 a4 = some (-1, M0) := by
            simp only [F_X3_exchange, F_X3_needTwoEntries, xt_n, xt_s, xb1_s, xb2_s, xl_e, t3_pow, f3_pow, t3_node0, f3_node0, t3_open, f4_off, f4_ref, f4_node0, f4_open, mr12, f3_in ha2, f3_in ha4, m0_l, show ((0 : Int).toNat) = 0 from rfl, at0_3, m0s, none3 ha2, none3 ha4]
            rfl
          have e4 : F_X4_exchange MR 0 a2 0 a4 = some (-1, MR) := by
            simp only [F_X4_exchange, F_X4_isRefusedBoth, F_X4_isName, xt_n, xt_s, xb1_s, xb2_s, xl_e, t3_pow, f3_pow, t3_node0, f3_node0, t3_open, f4_off, f4_ref, f4_node0, f4_open, mr12, f4_in ha2, f4_in ha4, is2_4, none4 ha2, none4 ha4, where4 ha2, where4 ha4]
            rfl
          exact okI.n e3 e4 thr_0
        · skip
          simp only [T_X3_exchange, F_X4_exchange, F_X4_exchange_128, F_X4_exchange_157, T_X3_needEntry, T_X3_needTwoEntries, T_X3_needLive, T_X3_needBytes, F_X3_needEntry, F_X3_needTwoEntries, F_X3_needLive, F_X3_needBytes, F_X4_isRefused, F_X4_isRefusedNode, F_X4_isRefusedHandle, F_X4_isRefusedAt, F_X4_isRefusedUser, F_X4_isRefusedRow, F_X4_isRefusedBoth, F_X4_isName, xt_n, xt_s, xb1_s, xb2_s, xl_e, t3_pow, f3_pow, t3_node0, f3_node0, t3_open, f4_off, f4_ref, f4_node0, f4_open, mr12, t3_in ha2, f3_in ha2, f4_in ha2, t3_inx ha4, f4_inx ha4]
          exact okI.t rfl rfl rfl rfl (by decide)
      · skip
        by_cases ha4 : (1 : Int) ≤ a4 ∧ a4 ≤ 99
        · skip
          simp only [T_X3_exchange, F_X4_exchange, F_X4_exchange_128, F_X4_exchange_157, T_X3_needEntry, T_X3_needTwoEntries, T_X3_needLive, T_X3_needBytes, F_X3_needEntry, F_X3_needTwoEntries, F_X3_needLive, F_X3_needBytes, F_X4_isRefused, F_X4_isRefusedNode, F_X4_isRefusedHandle, F_X4_isRefusedAt, F_X4_isRefusedUser, F_X4_isRefusedRow, F_X4_isRefusedBoth, F_X4_isName, xt_n, xt_s, xb1_s, xb2_s, xl_e, t3_pow, f3_pow, t3_node0, f3_node0, t3_open, f4_off, f4_ref, f4_node0, f4_open, mr12, t3_in ha2, f3_in ha2, f4_in ha2, t3_node ha3, f4_node ha3, t3_in ha4, f3_in ha4, f4_in ha4]
          exact okI.t rfl rfl rfl rfl (by decide)
        · skip
          simp only [T_X3_exchange, F_X4_exchange, F_X4_exchange_128, F_X4_exchange_157, T_X3_needEntry, T_X3_needTwoEntries, T_X3_needLive, T_X3_needBytes, F_X3_needEntry, F_X3_needTwoEntries, F_X3_needLive, F_X3_needBytes, F_X4_isRefused, F_X4_isRefusedNode, F_X4_isRefusedHandle, F_X4_isRefusedAt, F_X4_isRefusedUser, F_X4_isRefusedRow, F_X4_isRefusedBoth, F_X4_isName, xt_n, xt_s, xb1_s, xb2_s, xl_e, t3_pow, f3_pow, t3_node0, f3_node0, t3_open, f4_off, f4_ref, f4_node0, f4_open, mr12, t3_in ha2, f3_in ha2, f4_in ha2, t3_node ha3, f4_node ha3, t3_inx ha4, f4_inx ha4]
          exact okI.t rfl rfl rfl rfl (by decide)
    · skip
      by_cases ha3 : a3 = 0
      · subst ha3
        by_cases ha4 : (1 : Int) ≤ a4 ∧ a4 ≤ 99
        · skip
          simp only [T_X3_exchange, F_X4_exchange, F_X4_exchange_128, F_X4_exchange_157, T_X3_needEntry, T_X3_needTwoEntries, T_X3_needLive, T_X3_needBytes, F_X3_needEntry, F_X3_needTwoEntries, F_X3_needLive, F_X3_needBytes, F_X4_isRefused, F_X4_isRefusedNode, F_X4_isRefusedHandle, F_X4_isRefusedAt, F_X4_isRefusedUser, F_X4_isRefusedRow, F_X4_isRefusedBoth, F_X4_isName, xt_n, xt_s, xb1_s, xb2_s, xl_e, t3_pow, f3_pow, t3_node0, f3_node0, t3_open, f4_off, f4_ref, f4_node0, f4_open, mr12, t3_inx ha2, f4_inx ha2, t3_in ha4, f3_in ha4, f4_in ha4]
          exact okI.t rfl rfl rfl rfl (by decide)
        · skip
          simp only [T_X3_exchange, F_X4_exchange, F_X4_exchange_128, F_X4_exchange_157, T_X3_needEntry, T_X3_needTwoEntries, T_X3_needLive, T_X3_needBytes, F_X3_needEntry, F_X3_needTwoEntries, F_X3_needLive, F_X3_needBytes, F_X4_isRefused, F_X4_isRefusedNode, F_X4_isRefusedHandle, F_X4_isRefusedAt, F_X4_isRefusedUser, F_X4_isRefusedRow, F_X4_isRefusedBoth, F_X4_isName, xt_n, xt_s, xb1_s, xb2_s, xl_e, t3_pow, f3_pow, t3_node0, f3_node0, t3_open, f4_off, f4_ref, f4_node0, f4_open, mr12, t3_inx ha2, f4_inx ha2, t3_inx ha4, f4_inx ha4]
          exact okI.t rfl rfl rfl rfl (by decide)
      · skip
        by_cases ha4 : (1 : Int) ≤ a4 ∧ a4 ≤ 99
        · skip
          simp only [T_X3_exchange, F_X4_exchange, F_X4_exchange_128, F_X4_exchange_157, T_X3_needEntry, T_X3_needTwoEntries, T_X3_needLive, T_X3_needBytes, F_X3_needEntry, F_X3_needTwoEntries, F_X3_needLive, F_X3_needBytes, F_X4_isRefused, F_X4_isRefusedNode, F_X4_isRefusedHandle, F_X4_isRefusedAt, F_X4_isRefusedUser, F_X4_isRefusedRow, F_X4_isRefusedBoth, F_X4_isName, xt_n, xt_s, xb1_s, xb2_s, xl_e, t3_pow, f3_pow, t3_node0, f3_node0, t3_open, f4_off, f4_ref, f4_node0, f4_open, mr12, t3_inx ha2, f4_inx ha2, t3_node ha3, f4_node ha3, t3_in ha4, f3_in ha4, f4_in ha4]
          exact okI.t rfl rfl rfl rfl (by decide)
        · skip
          simp only [T_X3_exchange, F_X4_exchange, F_X4_exchange_128, F_X4_exchange_157, T_X3_needEntry, T_X3_needTwoEntries, T_X3_needLive, T_X3_needBytes, F_X3_needEntry, F_X3_needTwoEntries, F_X3_needLive, F_X3_needBytes, F_X4_isRefused, F_X4_isRefusedNode, F_X4_isRefusedHandle, F_X4_isRefusedAt, F_X4_isRefusedUser, F_X4_isRefusedRow, F_X4_isRefusedBoth, F_X4_isName, xt_n, xt_s, xb1_s, xb2_s, xl_e, t3_pow, f3_pow, t3_node0, f3_node0, t3_open, f4_off, f4_ref, f4_node0, f4_open, mr12, t3_inx ha2, f4_inx ha2, t3_node ha3, f4_node ha3, t3_inx ha4, f4_inx ha4]
          exact okI.t rfl rfl rfl rfl (by decide)
  · skip
    by_cases ha2 : (1 : Int) ≤ a2 ∧ a2 ≤ 99
    · skip
      by_cases ha3 : a3 = 0
      · subst ha3
        by_cases ha4 : (1 : Int) ≤ a4 ∧ a4 ≤ 99
        · skip
          simp only [T_X3_exchange, F_X4_exchange, F_X4_exchange_128, F_X4_exchange_157, T_X3_needEntry, T_X3_needTwoEntries, T_X3_needLive, T_X3_needBytes, F_X3_needEntry, F_X3_needTwoEntries, F_X3_needLive, F_X3_needBytes, F_X4_isRefused, F_X4_isRefusedNode, F_X4_isRefusedHandle, F_X4_isRefusedAt, F_X4_isRefusedUser, F_X4_isRefusedRow, F_X4_isRefusedBoth, F_X4_isName, xt_n, xt_s, xb1_s, xb2_s, xl_e, t3_pow, f3_pow, t3_node0, f3_node0, t3_open, f4_off, f4_ref, f4_node0, f4_open, mr12, t3_node ha1, f4_node ha1, t3_in ha2, f3_in ha2, f4_in ha2, t3_in ha4, f3_in ha4, f4_in ha4]
          exact okI.t rfl rfl rfl rfl (by decide)
        · skip
          simp only [T_X3_exchange, F_X4_exchange, F_X4_exchange_128, F_X4_exchange_157, T_X3_needEntry, T_X3_needTwoEntries, T_X3_needLive, T_X3_needBytes, F_X3_needEntry, F_X3_needTwoEntries, F_X3_needLive, F_X3_needBytes, F_X4_isRefused, F_X4_isRefusedNode, F_X4_isRefusedHandle, F_X4_isRefusedAt, F_X4_isRefusedUser, F_X4_isRefusedRow, F_X4_isRefusedBoth, F_X4_isName, xt_n, xt_s, xb1_s, xb2_s, xl_e, t3_pow, f3_pow, t3_node0, f3_node0, t3_open, f4_off, f4_ref, f4_node0, f4_open, mr12, t3_node ha1, f4_node ha1, t3_in ha2, f3_in ha2, f4_in ha2, t3_inx ha4, f4_inx ha4]
          exact okI.t rfl rfl rfl rfl (by decide)
      · skip
        by_cases ha4 : (1 : Int) ≤ a4 ∧ a4 ≤ 99
        · skip
          simp only [T_X3_exchange, F_X4_exchange, F_X4_exchange_128, F_X4_exchange_157, T_X3_needEntry, T_X3_needTwoEntries, T_X3_needLive, T_X3_needBytes, F_X3_needEntry, F_X3_needTwoEntries, F_X3_needLive, F_X3_needBytes, F_X4_isRefused, F_X4_isRefusedNode, F_X4_isRefusedHandle, F_X4_isRefusedAt, F_X4_isRefusedUser, F_X4_isRefusedRow, F_X4_isRefusedBoth, F_X4_isName, xt_n, xt_s, xb1_s, xb2_s, xl_e, t3_pow, f3_pow, t3_node0, f3_node0, t3_open, f4_off, f4_ref, f4_node0, f4_open, mr12, t3_node ha1, f4_node ha1, t3_in ha2, f3_in ha2, f4_in ha2, t3_node ha3, f4_node ha3, t3_in ha4, f3_in ha4, f4_in ha4]
          exact okI.t rfl rfl rfl rfl (by decide)
        · skip
          simp only [T_X3_exchange, F_X4_exchange, F_X4_exchange_128, F_X4_exchange_157, T_X3_needEntry, T_X3_needTwoEntries, T_X3_needLive, T_X3_needBytes, F_X3_needEntry, F_X3_needTwoEntries, F_X3_needLive, F_X3_needBytes, F_X4_isRefused, F_X4_isRefusedNode, F_X4_isRefusedHandle, F_X4_isRefusedAt, F_X4_isRefusedUser, F_X4_isRefusedRow, F_X4_isRefusedBoth, F_X4_isName, xt_n, xt_s, xb1_s, xb2_s, xl_e, t3_pow, f3_pow, t3_node0, f3_node0, t3_open, f4_off, f4_ref, f4_node0, f4_open, mr12, t3_node ha1, f4_node ha1, t3_in ha2, f3_in ha2, f4_in ha2, t3_node ha3, f4_node ha3, t3_inx ha4, f4_inx ha4]
          exact okI.t rfl rfl rfl rfl (by decide)
    · skip
      by_cases ha3 : a3 = 0
      · subst ha3
        by_cases ha4 : (1 : Int) ≤ a4 ∧ a4 ≤ 99
        · skip
          simp only [T_X3_exchange, F_X4_exchange, F_X4_exchange_128, F_X4_exchange_157, T_X3_needEntry, T_X3_needTwoEntries, T_X3_needLive, T_X3_needBytes, F_X3_needEntry, F_X3_needTwoEntries, F_X3_needLive, F_X3_needBytes, F_X4_isRefused, F_X4_isRefusedNode, F_X4_isRefusedHandle, F_X4_isRefusedAt, F_X4_isRefusedUser, F_X4_isRefusedRow, F_X4_isRefusedBoth, F_X4_isName, xt_n, xt_s, xb1_s, xb2_s, xl_e, t3_pow, f3_pow, t3_node0, f3_node0, t3_open, f4_off, f4_ref, f4_node0, f4_open, mr12, t3_node ha1, f4_node ha1, t3_inx ha2, f4_inx ha2, t3_in ha4, f3_in ha4, f4_in ha4]
          exact okI.t rfl rfl rfl rfl (by decide)
        · skip
          simp only [T_X3_exchange, F_X4_exchange, F_X4_exchange_128, F_X4_exchange_157, T_X3_needEntry, T_X3_needTwoEntries, T_X3_needLive, T_X3_needBytes, F_X3_needEntry, F_X3_needTwoEntries, F_X3_needLive, F_X3_needBytes, F_X4_isRefused, F_X4_isRefusedNode, F_X4_isRefusedHandle, F_X4_isRefusedAt, F_X4_isRefusedUser, F_X4_isRefusedRow, F_X4_isRefusedBoth, F_X4_isName, xt_n, xt_s, xb1_s, xb2_s, xl_e, t3_pow, f3_pow, t3_node0, f3_node0, t3_open, f4_off, f4_ref, f4_node0, f4_open, mr12, t3_node ha1, f4_node ha1, t3_inx ha2, f4_inx ha2, t3_inx ha4, f4_inx ha4]
          exact okI.t rfl rfl rfl rfl (by decide)
      · skip
        by_cases ha4 : (1 : Int) ≤ a4 ∧ a4 ≤ 99
        · skip
          simp only [T_X3_exchange, F_X4_exchange, F_X4_exchange_128, F_X4_exchange_157, T_X3_needEntry, T_X3_needTwoEntries, T_X3_needLive, T_X3_needBytes, F_X3_needEntry, F_X3_needTwoEntries, F_X3_needLive, F_X3_needBytes, F_X4_isRefused, F_X4_isRefusedNode, F_X4_isRefusedHandle, F_X4_isRefusedAt, F_X4_isRefusedUser, F_X4_isRefusedRow, F_X4_isRefusedBoth, F_X4_isName, xt_n, xt_s, xb1_s, xb2_s, xl_e, t3_pow, f3_pow, t3_node0, f3_node0, t3_open, f4_off, f4_ref, f4_node0, f4_open, mr12, t3_node ha1, f4_node ha1, t3_inx ha2, f4_inx ha2, t3_node ha3, f4_node ha3, t3_in ha4, f3_in ha4, f4_in ha4]
          exact okI.t rfl rfl rfl rfl (by decide)
        · skip
          simp only [T_X3_exchange, F_X4_exchange, F_X4_exchange_128, F_X4_exchange_157, T_X3_needEntry, T_X3_needTwoEntries, T_X3_needLive, T_X3_needBytes, F_X3_needEntry, F_X3_needTwoEntries, F_X3_needLive, F_X3_needBytes, F_X4_isRefused, F_X4_isRefusedNode, F_X4_isRefusedHandle, F_X4_isRefusedAt, F_X4_isRefusedUser, F_X4_isRefusedRow, F_X4_isRefusedBoth, F_X4_isName, xt_n, xt_s, xb1_s, xb2_s, xl_e, t3_pow, f3_pow, t3_node0, f3_node0, t3_open, f4_off, f4_ref, f4_node0, f4_open, mr12, t3_node ha1, f4_node ha1, t3_inx ha2, f4_inx ha2, t3_node ha3, f4_node ha3, t3_inx ha4, f4_inx ha4]
          exact okI.t rfl rfl rfl rfl (by decide)
