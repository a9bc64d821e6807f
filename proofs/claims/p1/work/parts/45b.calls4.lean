theorem mup_same {M : Mm} {K i k : Nat} {v : Int} (h : M K i k = v) : mup M K i k v = M := by
  funext K1 i1 k1
  unfold mup
  by_cases q : K1 = K ∧ i1 = i ∧ k1 = k
  · rw [if_pos q, q.1, q.2.1, q.2.2, h]
  · rw [if_neg q]
theorem mcp_same {M : Mm} {K i sp K2 i2 dp n : Nat} (h : ∀ j : Nat, j < n → M K i (sp + j) = M K2 i2 (dp + j)) : mcp M K i sp K2 i2 dp n = M := by
  funext K1 i1 k1
  unfold mcp
  by_cases q : K1 = K2 ∧ i1 = i2 ∧ dp ≤ k1 ∧ k1 < dp + n
  · obtain ⟨q1, q2, q3, q4⟩ := q
    rw [if_pos ⟨q1, q2, q3, q4⟩, h (k1 - dp) (by omega), q1, q2, show dp + (k1 - dp) = k1 by omega]
  · rw [if_neg q]
theorem sl0 {M : Mm} {o : Nat} (h : ∀ k, M 12 o k = 0) : ∀ (j n : Nat), j ≤ 320 → F_X0_setLocks_10 (n + j + 1) M o 0 320 0 0 ((320 : Int) - (j : Int)) = some (0, M)
  | 0, n, _ => by
    unfold F_X0_setLocks_10
    rw [xk_t (by decide), if_pos (by omega)]
  | j + 1, n, hj => by
    have ih := sl0 h j n (by omega)
    show F_X0_setLocks_10 ((n + j + 1) + 1) M o 0 320 0 0 _ = _
    unfold F_X0_setLocks_10
    rw [xk_t (by decide), if_neg (by omega), if_neg (by omega), xk_t (by omega), if_pos (h _)]
    unfold F_X0_setLocks_41
    rw [xk_t (by omega), xl_e, mup_same (h _), xk_t (by constructor <;> omega), show (320 : Int) - ((j + 1 : Nat) : Int) + 1 = 320 - (j : Int) by omega]
    exact ih
theorem lv0 {M : Mm} {o : Nat} (h : ∀ k, M 12 o k = 0) (h2 : M 11 o 0 = 0) : F_X0_leave M o = some M := by
  unfold F_X0_leave
  rw [xl_e, mup_same h2]
  show xb2 (F_X0_setLocks_10 FU M o 0 320 0 0 0) _ = _
  rw [show F_X0_setLocks_10 FU M o 0 320 0 0 0 = some (0, M) from sl0 h 320 (FU - 321) (by decide)]
  rfl
theorem fl0 {M : Mm} (h : ∀ o k, M 12 o k = 0) (h2 : ∀ o, M 11 o 0 = 0) : ∀ (j n : Nat), j ≤ 6 → F_X3_fall_12 (n + j + 1) M ((6 : Int) - (j : Int)) = some M
  | 0, n, _ => by
    unfold F_X3_fall_12
    rw [if_pos (by omega)]
  | j + 1, n, hj => by
    have ih := fl0 h h2 j n (by omega)
    show F_X3_fall_12 ((n + j + 1) + 1) M _ = _
    unfold F_X3_fall_12
    rw [if_neg (by omega), xk_t (by omega), lv0 (h _) (h2 _), xb1_s, xk_t (by constructor <;> omega), show (6 : Int) - ((j + 1 : Nat) : Int) + 1 = 6 - (j : Int) by omega]
    exact ih
theorem cut3 : ∃ M', F_X3_cut M0 = some M' := by
  unfold F_X3_cut F_X3_fall
  rw [f3_pow, xb1_s, xl_e, xl_e, show F_X3_fall_12 FU (mup (mup M0 0 0 5 1) 0 0 4 0) 0 = some (mup (mup M0 0 0 5 1) 0 0 4 0) from fl0 (fun o k => rfl) (fun o => rfl) 6 (FU - 7) (by decide)]
  exact ⟨_, rfl⟩
set_option maxHeartbeats 2000000 in
set_option maxRecDepth 20000 in
theorem cut4 : ((F_X4_cut MR).bind fun y => F_X4_thrown y) = some 0 := by decide +kernel
set_option maxHeartbeats 2000000 in
set_option maxRecDepth 20000 in
theorem p_cut : okV (F_X3_cut M0) (T_X3_cut M0) (F_X4_cut MR) (fun E => if E = 1 then 1 else 0) := by
  obtain ⟨M1, h3⟩ := cut3
  have h4 := cut4
  cases e : F_X4_cut MR with
  | none =>
    rw [e] at h4
    simp at h4
  | some z =>
    rw [e] at h4
    exact okV.n h3 rfl h4
theorem m0_mod {K i i2 k : Nat} (h : i % 33 = i2 % 33) : M0 K i k = M0 K i2 k := by
  unfold M0
  rw [h]
theorem m0_mup {K i i2 k : Nat} (h : i2 % 33 = i % 33) : mup M0 K i k (M0 K i2 k) = M0 := mup_same (m0_mod h.symm)
theorem nc0 {i i2 : Nat} (h : i2 % 33 = i % 33) : F_X1_copyFrom M0 i i2 = some M0 := by
  unfold F_X1_copyFrom F_X1_aim
  simp only [xl_e, xb1_s, m0_mup h]
  rw [mcp_same (fun j _ => m0_mod h), mcp_same (fun j _ => m0_mod h), mcp_same (fun j _ => m0_mod h)]
theorem m0_78 {i i2 k : Nat} : M0 6 i k = M0 6 i2 k ∧ M0 7 i k = M0 7 i2 k ∧ M0 8 i k = M0 8 i2 k ∧ M0 1 i k = M0 1 i2 k := ⟨rfl, rfl, rfl, rfl⟩
theorem cf0 : ∀ (j n : Nat), j ≤ 32 → F_X2_copyFrom_2 (n + j + 1) M0 1 0 ((32 : Int) - (j : Int)) = some M0
  | 0, n, _ => by
    unfold F_X2_copyFrom_2
    rw [if_pos (by omega)]
    simp only [xl_e]
    rw [mcp_same (fun j _ => m0_78.1), mcp_same (fun j _ => m0_78.2.1), mcp_same (fun j _ => m0_78.2.2.1), show mup M0 1 1 5 (M0 1 0 5) = M0 from mup_same rfl]
  | j + 1, n, hj => by
    have ih := cf0 j n (by omega)
    show F_X2_copyFrom_2 ((n + j + 1) + 1) M0 1 0 _ = _
    unfold F_X2_copyFrom_2
    rw [if_neg (by omega)]
    rw [xk_t (by omega), at_in (by omega), xb1_s, nc0 (by omega), xb1_s, xk_t (by constructor <;> omega)]
    rw [show (32 : Int) - ((j + 1 : Nat) : Int) + 1 = 32 - (j : Int) by omega]
    exact ih
theorem m0x : M0 0 0 1 = 0 ∨ M0 0 0 1 = 1 := Or.inr rfl
theorem m0y : M0 0 0 0 = 0 ∨ M0 0 0 0 = 1 := Or.inl rfl
theorem sd0 : F_X3_startDraft M0 = some M0 := by
  unfold F_X3_startDraft
  rw [xk_t m0x, xk_t m0y]
  show xb1 (F_X2_copyFrom_2 FU M0 1 0 0) _ = _
  rw [show F_X2_copyFrom_2 FU M0 1 0 0 = some M0 from cf0 32 (FU - 33) (by decide)]
  rfl
theorem g_hind : (fun a2 : Int => F_X3_hindranceToMake M0 0 a2) = fun _ => some 0 := by eq_refl
