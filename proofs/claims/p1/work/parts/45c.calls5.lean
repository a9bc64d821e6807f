/-! WHAT THE ROOM DEPENDS ON -/
def agH (M' M : Mm) : Prop := (∀ i k, M' 0 i k = M 0 i k) ∧ (∀ i k, M' 8 i k = M 8 i k) ∧ (∀ i, M' 2 i 0 = M 2 i 0 ∧ M' 2 i 1 = M 2 i 1 ∧ M' 2 i 8 = M 2 i 8) ∧ (∀ i k, M' 5 i k = M 5 i k) ∧ (∀ i k, M' 6 i k = M 6 i k)
theorem cgH_own20 {M M' : Mm} (h : agH M' M) : ∀ (n o : Nat) (v1 v2 : Int), F_X1_ownBlocks_20 M' n o v1 v2 = F_X1_ownBlocks_20 M n o v1 v2
  | 0, _, _, _ => rfl
  | n + 1, o, v1, v2 => by
    unfold F_X1_ownBlocks_20
    simp only [h.2.2.2.1, cgH_own20 h n]
theorem cgH_own {M M' : Mm} (h : agH M' M) (o : Nat) : F_X1_ownBlocks M' o = F_X1_ownBlocks M o := by
  unfold F_X1_ownBlocks F_X1_blocksFor
  simp only [(h.2.2.1 o).1, (h.2.2.1 o).2.2, cgH_own20 h]
theorem cgH_bt33 {M M' : Mm} (h : agH M' M) : ∀ (n o : Nat) (v1 v2 : Int), F_X2_blocksTaken_33 M' n o v1 v2 = F_X2_blocksTaken_33 M n o v1 v2
  | 0, _, _, _ => rfl
  | n + 1, o, v1, v2 => by
    unfold F_X2_blocksTaken_33
    simp only [(h.2.2.1 _).1, cgH_own h, cgH_bt33 h n]
theorem cgH_bt4 {M M' : Mm} (h : agH M' M) : ∀ (n o : Nat) (v1 v2 : Int), F_X2_blocksTaken_4 M' n o v1 v2 = F_X2_blocksTaken_4 M n o v1 v2
  | 0, _, _, _ => rfl
  | n + 1, o, v1, v2 => by
    unfold F_X2_blocksTaken_4
    simp only [h.2.1, cgH_bt33 h, cgH_bt4 h n]
theorem cgH_tb4 {M M' : Mm} (h : agH M' M) : ∀ (n o : Nat) (v1 v2 v3 : Int), F_X2_takenBy_4 M' n o v1 v2 v3 = F_X2_takenBy_4 M n o v1 v2 v3
  | 0, _, _, _, _ => rfl
  | n + 1, o, v1, v2, v3 => by
    unfold F_X2_takenBy_4
    simp only [(h.2.2.1 _).2.1, cgH_own h, cgH_tb4 h n]
theorem cgH_lim {M M' : Mm} (h : agH M' M) (o : Nat) (a : Int) : F_X2_limitOf M' o a = F_X2_limitOf M o a := by
  unfold F_X2_limitOf
  simp only [h.2.2.2.2]
theorem cgH_17 {M M' : Mm} (h : agH M' M) : ∀ (n : Nat) (v1 : Int), F_X3_hindranceOfRoom_17 M' n v1 = F_X3_hindranceOfRoom_17 M n v1
  | 0, _ => rfl
  | n + 1, v1 => by
    unfold F_X3_hindranceOfRoom_17 F_X2_takenBy
    simp only [h.1, cgH_tb4 h, cgH_lim h, cgH_17 h n]
theorem cgH {M M' : Mm} (h : agH M' M) : F_X3_hindranceOfRoom M' = F_X3_hindranceOfRoom M := by
  unfold F_X3_hindranceOfRoom F_X2_blocksTaken
  simp only [h.1, cgH_bt4 h, cgH_17 h]
theorem tb0 : ((List.range 4).all fun i => decide (F_X2_takenBy_4 M0 FU 1 (0 + (i : Int)) 0 0 = F_X2_takenBy_4 M0 FU 0 (0 + (i : Int)) 0 0) && (F_X2_takenBy_4 M0 FU 0 (0 + (i : Int)) 0 0).isSome) = true := by decide +kernel
theorem bt0 : F_X2_blocksTaken M0 1 = some 0 := by decide +kernel
/-- only the limits are others -/
def agL (M' M : Mm) : Prop := ∀ K i k, K ≠ 6 → M' K i k = M K i k
theorem cgL_own20 {M M' : Mm} (h : agL M' M) : ∀ (n o : Nat) (v1 v2 : Int), F_X1_ownBlocks_20 M' n o v1 v2 = F_X1_ownBlocks_20 M n o v1 v2
  | 0, _, _, _ => rfl
  | n + 1, o, v1, v2 => by
    unfold F_X1_ownBlocks_20
    simp only [h 5 _ _ (by decide), cgL_own20 h n]
theorem cgL_own {M M' : Mm} (h : agL M' M) (o : Nat) : F_X1_ownBlocks M' o = F_X1_ownBlocks M o := by
  unfold F_X1_ownBlocks F_X1_blocksFor
  simp only [h 2 _ _ (by decide), cgL_own20 h]
theorem cgL_bt33 {M M' : Mm} (h : agL M' M) : ∀ (n o : Nat) (v1 v2 : Int), F_X2_blocksTaken_33 M' n o v1 v2 = F_X2_blocksTaken_33 M n o v1 v2
  | 0, _, _, _ => rfl
  | n + 1, o, v1, v2 => by
    unfold F_X2_blocksTaken_33
    simp only [h 2 _ _ (by decide), cgL_own h, cgL_bt33 h n]
theorem cgL_bt4 {M M' : Mm} (h : agL M' M) : ∀ (n o : Nat) (v1 v2 : Int), F_X2_blocksTaken_4 M' n o v1 v2 = F_X2_blocksTaken_4 M n o v1 v2
  | 0, _, _, _ => rfl
  | n + 1, o, v1, v2 => by
    unfold F_X2_blocksTaken_4
    simp only [h 8 _ _ (by decide), cgL_bt33 h, cgL_bt4 h n]
theorem cgL_tb4 {M M' : Mm} (h : agL M' M) : ∀ (n o : Nat) (v1 v2 v3 : Int), F_X2_takenBy_4 M' n o v1 v2 v3 = F_X2_takenBy_4 M n o v1 v2 v3
  | 0, _, _, _, _ => rfl
  | n + 1, o, v1, v2, v3 => by
    unfold F_X2_takenBy_4
    simp only [h 2 _ _ (by decide), cgL_own h, cgL_tb4 h n]
theorem lim17 {M' : Mm} (h : agL M' M0) : ∀ (j n : Nat), j ≤ 4 → F_X3_hindranceOfRoom_17 M' (n + j + 1) ((4 : Int) - (j : Int)) = some 0
  | 0, n, _ => by
    unfold F_X3_hindranceOfRoom_17
    rw [if_pos (by omega)]
  | j + 1, n, hj => by
    have ih := lim17 h j n (by omega)
    have t0 := List.all_eq_true.mp tb0 (3 - j) (List.mem_range.mpr (by omega))
    rw [show (0 : Int) + ((3 - j : Nat) : Int) = 4 - ((j + 1 : Nat) : Int) by omega] at t0
    have t1 := Bool.and_eq_true_iff.mp t0
    have t2 := of_decide_eq_true t1.1
    obtain ⟨y, hy⟩ := Option.isSome_iff_exists.mp t1.2
    show F_X3_hindranceOfRoom_17 M' ((n + j + 1) + 1) _ = _
    unfold F_X3_hindranceOfRoom_17 F_X2_takenBy
    rw [if_neg (by omega), h 0 0 1 (by decide), xk_t m0x, show ((M0 0 0 1).toNat) = 1 from rfl, cgL_tb4 h, t2, hy, xb1_s, h 0 0 0 (by decide), xk_t m0y, show ((M0 0 0 0).toNat) = 0 from rfl, cgL_tb4 h, hy, xb1_s, if_pos (Int.le_refl y), xk_t (by constructor <;> omega), show (4 : Int) - ((j + 1 : Nat) : Int) + 1 = 4 - (j : Int) by omega]
    exact ih
theorem lim0 {u : Nat} {a : Int} (_ : F_X3_hindranceOfRoom M0 = some 0) : F_X3_hindranceOfRoom (mup M0 6 1 u a) = some 0 := by
  have h : agL (mup M0 6 1 u a) M0 := by
    intro K i k hk
    unfold mup
    rw [if_neg (fun z => hk z.1)]
  unfold F_X3_hindranceOfRoom F_X2_blocksTaken
  rw [h 0 0 1 (by decide), xk_t m0x, show ((M0 0 0 1).toNat) = 1 from rfl, cgL_bt4 h, show F_X2_blocksTaken_4 M0 FU 1 0 0 = some 0 from bt0, xb1_s, if_pos (by decide)]
  exact lim17 h 4 (FU - 5) (by decide)
/-- a change that has room, the first one -/
theorem set0 {M : Mm} {y : Int} (h : F_X3_hindranceOfRoom M = some 0) (h0 : M 0 0 0 = 0) (h1 : M 0 0 1 = 1) (h4 : M 0 0 4 = 0) (h5 : M 1 1 5 = 0) : ∃ M', F_X3_settle M y = some (y, M') := by
  have a1 : (mup (mup M 0 0 0 (((M 0 0 1).toNat : Nat) : Int)) 0 0 1 (((M 0 0 0).toNat : Nat) : Int)) 0 0 0 = 1 := by
    simp [mup, h1]
  have a2 : (mup (mup M 0 0 0 (((M 0 0 1).toNat : Nat) : Int)) 0 0 1 (((M 0 0 0).toNat : Nat) : Int)) 1 1 5 = 0 := by
    simp [mup, h5]
  have a3 : (mup (mup M 0 0 0 (((M 0 0 1).toNat : Nat) : Int)) 0 0 1 (((M 0 0 0).toNat : Nat) : Int)) 0 0 4 = 0 := by
    simp [mup, h4]
  unfold F_X3_settle
  rw [h, xb1_s, if_pos rfl, xk_t (Or.inl h0), xk_t (Or.inr h1), xl_e, xl_e]
  generalize mup (mup M 0 0 0 (((M 0 0 1).toNat : Nat) : Int)) 0 0 1 (((M 0 0 0).toNat : Nat) : Int) = N at a1 a2 a3 ⊢
  have b1 : (mup N 1 ((1 : Int).toNat) 5 (0 + 1)) 0 0 4 = 0 := by
    simp [mup, a3]
  rw [a1, show N 1 ((1 : Int).toNat) 5 = 0 from a2, xk_t (Or.inr rfl), xk_t (by decide), xl_e, b1, xk_t (by decide), xl_e]
  rw [if_pos (by simp [mup])]
  exact ⟨_, rfl⟩
theorem fr0 : F_X2_freeNumber M0 1 = some 1 := by decide +kernel
theorem bc39 {M : Mm} {o : Nat} (h : ∀ k, M 5 o k = 0) : ∀ (j n : Nat), j ≤ 20 → F_X1_become_39 (n + j + 1) M o ((20 : Int) - (j : Int)) = some M
  | 0, n, _ => by
    unfold F_X1_become_39
    rw [if_pos (by omega)]
  | j + 1, n, hj => by
    have ih := bc39 h j n (by omega)
    show F_X1_become_39 ((n + j + 1) + 1) M o _ = _
    unfold F_X1_become_39
    rw [if_neg (by omega), xk_t (by omega), xl_e, mup_same (h _), xk_t (by constructor <;> omega), show (20 : Int) - ((j + 1 : Nat) : Int) + 1 = 20 - (j : Int) by omega]
    exact ih
theorem bc40 {M : Mm} {o : Nat} (h : ∀ k, M 5 o k = 0) : F_X1_become_39 FU M o 0 = some M := bc39 h 20 (FU - 21) (by decide)
theorem bcG {M : Mm} {o : Nat} {s : Int} (h2 : ∀ k, k ≠ 0 → M 2 o k = 0) (h5 : ∀ k, M 5 o k = 0) : F_X1_become M o s 0 = some (mup M 2 o 0 s) := by
  have z : ∀ k, k ≠ 0 → (mup M 2 o 0 s) 2 o k = 0 := by
    intro k hk
    unfold mup
    rw [if_neg (by omega)]
    exact h2 k hk
  have z5 : ∀ k, (mup M 2 o 0 s) 5 o k = 0 := by
    intro k
    unfold mup
    rw [if_neg (by omega)]
    exact h5 k
  unfold F_X1_become
  rw [xl_e, xl_e, mup_same (z 1 (by decide)), xl_e, mup_same (z 2 (by decide)), xl_e, mup_same (z 3 (by decide)), xl_e, mup_same (z 4 (by decide))]
  unfold F_X1_aim
  rw [xl_e, mup_same (z 5 (by decide)), xl_e, mup_same (z 6 (by decide)), xl_e, mup_same (z 7 (by decide)), xb1_s, xl_e, mup_same (z 8 (by decide))]
  exact bc40 z5
theorem bc0 {s : Int} : F_X1_become M0 34 s (M0 2 33 1) = some (mup M0 2 34 0 s) := by
  rw [show M0 2 33 1 = 0 from rfl]
  refine bcG (fun k hk => ?_) (fun k => ?_)
  · unfold M0
    rw [if_pos rfl, if_neg (by omega)]
  · unfold M0
    rw [if_neg (by decide), if_neg (by decide), if_neg (by decide)]
/-- the first node made, under the name a -/
def E1 (s a : Int) : Mm := mup (mup (mup (mup (mup M0 2 34 0 s) 3 33 0 a) 4 33 0 1) 2 33 8 1) 2 34 2 1
theorem E1_par {s a : Int} : mup (E1 s a) 2 34 4 0 = E1 s a := mup_same rfl
theorem mk1 {s a : Int} : F_X2_make M0 1 s 0 a = some (1, E1 s a) := by
  unfold F_X2_make F_X2_attach
  rw [fr0, xb1_s, show F_X2_at M0 1 1 = some 34 from rfl, xb1_s, show F_X2_at M0 1 0 = some 33 from rfl, xb1_s, bc0, xb1_s, show F_X2_at (mup M0 2 34 0 s) 1 0 = some 33 from rfl, xb1_s]
  rw [show F_X1_insert (mup M0 2 34 0 s) 33 a 1 = some (mup (mup (mup (mup M0 2 34 0 s) 3 33 0 a) 4 33 0 1) 2 33 8 1) from rfl, xb1_s]
  rw [show F_X2_at (mup (mup (mup (mup M0 2 34 0 s) 3 33 0 a) 4 33 0 1) 2 33 8 1) 1 1 = some 34 from rfl, xb1_s, show (mup (mup (mup (mup M0 2 34 0 s) 3 33 0 a) 4 33 0 1) 2 33 8 1) 2 34 2 = 0 from rfl, xk_t (by decide), xl_e]
  by_cases q : s = 2
  · rw [if_pos (show (mup (mup (mup (mup (mup M0 2 34 0 s) 3 33 0 a) 4 33 0 1) 2 33 8 1) 2 34 2 (0 + 1)) 2 34 0 = 2 from q), xl_e, xb1_s]
    exact congrArg (fun z => some ((1 : Int), z)) E1_par
  · rw [if_neg (show ¬ (mup (mup (mup (mup (mup M0 2 34 0 s) 3 33 0 a) 4 33 0 1) 2 33 8 1) 2 34 2 (0 + 1)) 2 34 0 = 2 from q), xb1_s]
    rfl
theorem agE {s a : Int} : agH (E1 s a) (E1 s 5) := ⟨fun _ _ => rfl, fun _ _ => rfl, fun _ => ⟨rfl, rfl, rfl⟩, fun _ _ => rfl, fun _ _ => rfl⟩
theorem hind_E {s a : Int} (h : F_X3_hindranceOfRoom (E1 s 5) = some 0) : F_X3_hindranceOfRoom (E1 s a) = some 0 := (cgH agE).trans h
def R3_make (M6 : Mm) (a1 a2 a3 : Int) : Option (Int × Mm) := (xk (M6 0 0 1 = 0 ∨ M6 0 0 1 = 1) (xb2 (F_X2_make M6 ((M6 0 0 1).toNat) a1 a2 a3) fun y10 M11 => (xb2 (F_X3_settle M11 y10) fun y14 M15 => (some (y14, M15)))))
theorem R3_ok {s a : Int} (h : F_X3_hindranceOfRoom (E1 s 5) = some 0) : ∃ M', R3_make M0 s 0 a = some (1, M') := by
  obtain ⟨M1, h1⟩ := set0 (M := E1 s a) (y := 1) (hind_E h) rfl rfl rfl rfl
  unfold R3_make
  rw [xk_t m0x, show ((M0 0 0 1).toNat) = 1 from rfl, mk1, xb2_s, h1]
  exact ⟨_, rfl⟩
theorem ck1 {F3 F4 : Option (Int × Mm)} {r : Int} {T3 : Option Nat} {f : Nat → Int} (h3 : ∃ M', F3 = some (r, M')) (h4 : (match F4 with | some z => decide (z.1 = r) && decide (F_X4_thrown z.2 = some 0) | none => false) = true) : okI F3 T3 F4 f := by
  obtain ⟨M1, h3⟩ := h3
  match F4, h4 with
  | some (b, N), h4 =>
    have h2 := Bool.and_eq_true_iff.mp h4
    have e : b = r := of_decide_eq_true h2.1
    subst e
    exact Or.inl ⟨b, M1, N, h3, rfl, of_decide_eq_true h2.2⟩
  | none, h4 => exact Bool.noConfusion h4
theorem rf0 {a : Int} (h : (1 : Int) ≤ a ∧ a ≤ 99) : F_X4_isRefused MR 0 a = some (0, MR) := by
  unfold F_X4_isRefused F_X4_isName
  rw [f4_off, xb2_s, if_pos rfl, f4_node0, xb1_s, if_neg (by decide), f4_in h]
  rfl
theorem pos_nat {a : Int} (h : (1 : Int) ≤ a ∧ a ≤ 99) : ∃ k : Nat, a = ((k + 1 : Nat) : Int) := ⟨(a - 1).toNat, by omega⟩
set_option maxHeartbeats 2000000 in
set_option maxRecDepth 20000 in
theorem h_makeFile : F_X3_hindranceOfRoom (E1 1 5) = some 0 := by decide +kernel
set_option maxHeartbeats 2000000 in
set_option maxRecDepth 20000 in
theorem g_makeFile : (fun k : Nat => (match F_X4_make MR 0 ((k + 1 : Nat) : Int) 1 with | some z => decide (z.1 = 1) && decide (F_X4_thrown z.2 = some 0) | none => false)) = fun _ => true := by eq_refl
set_option maxHeartbeats 2000000 in
set_option maxRecDepth 20000 in
theorem p_makeFile (a1 a2 : Int) : okI (F_X3_makeFile M0 a1 a2) (T_X3_makeFile M0 a1 a2) (F_X4_makeFile MR a1 a2) (fun E => if E = 1 then 1 else if E = 2 then 2 else if E = 3 then 3 else 0) := by
  by_cases h1 : a1 = 0
  · subst h1
    by_cases h2 : (1 : Int) ≤ a2 ∧ a2 ≤ 99
    · have e3 : F_X3_makeFile M0 0 a2 = xb2 (R3_make M0 1 0 a2) fun y3 M4 => some (y3, M4) := by
        simp only [F_X3_makeFile, F_X3_makeEmpty, F_X3_needEntry, xt_n, xt_s, xb1_s, xb2_s, xl_e, t3_pow, f3_pow, t3_node0, f3_node0, t3_open, f4_off, f4_ref, f4_node0, f4_open, mr12, f3_in h2, congrFun g_hind a2, sd0, if_pos]
        rfl
      have e4 : F_X4_makeFile MR 0 a2 = xb2 (F_X4_make MR 0 a2 1) fun y3 M4 => some (y3, M4) := by
        unfold F_X4_makeFile
        rw [rf0 h2, xb2_s, if_pos rfl]
      rw [e3, e4, xb2_id, xb2_id]
      obtain ⟨k, rfl⟩ := pos_nat h2
      exact ck1 (R3_ok h_makeFile) (congrFun g_makeFile k)
    · simp only [T_X3_makeFile, F_X4_makeFile, T_X3_needEntry, T_X3_needTwoEntries, T_X3_needLive, T_X3_needBytes, F_X3_needEntry, F_X3_needTwoEntries, F_X3_needLive, F_X3_needBytes, F_X4_isRefused, F_X4_isRefusedNode, F_X4_isRefusedHandle, F_X4_isRefusedAt, F_X4_isRefusedUser, F_X4_isRefusedRow, F_X4_isRefusedBoth, F_X4_isName, xt_n, xt_s, xb1_s, xb2_s, xl_e, t3_pow, f3_pow, t3_node0, f3_node0, t3_open, f4_off, f4_ref, f4_node0, f4_open, mr12, t3_inx h2, f4_inx h2]
      exact okI.t rfl rfl rfl rfl (by decide)
  · by_cases h2 : (1 : Int) ≤ a2 ∧ a2 ≤ 99
    · simp only [T_X3_makeFile, F_X4_makeFile, T_X3_needEntry, T_X3_needTwoEntries, T_X3_needLive, T_X3_needBytes, F_X3_needEntry, F_X3_needTwoEntries, F_X3_needLive, F_X3_needBytes, F_X4_isRefused, F_X4_isRefusedNode, F_X4_isRefusedHandle, F_X4_isRefusedAt, F_X4_isRefusedUser, F_X4_isRefusedRow, F_X4_isRefusedBoth, F_X4_isName, xt_n, xt_s, xb1_s, xb2_s, xl_e, t3_pow, f3_pow, t3_node0, f3_node0, t3_open, f4_off, f4_ref, f4_node0, f4_open, mr12, t3_node h1, f4_node h1, t3_in h2, f3_in h2, f4_in h2]
      exact okI.t rfl rfl rfl rfl (by decide)
    · simp only [T_X3_makeFile, F_X4_makeFile, T_X3_needEntry, T_X3_needTwoEntries, T_X3_needLive, T_X3_needBytes, F_X3_needEntry, F_X3_needTwoEntries, F_X3_needLive, F_X3_needBytes, F_X4_isRefused, F_X4_isRefusedNode, F_X4_isRefusedHandle, F_X4_isRefusedAt, F_X4_isRefusedUser, F_X4_isRefusedRow, F_X4_isRefusedBoth, F_X4_isName, xt_n, xt_s, xb1_s, xb2_s, xl_e, t3_pow, f3_pow, t3_node0, f3_node0, t3_open, f4_off, f4_ref, f4_node0, f4_open, mr12, t3_node h1, f4_node h1, t3_inx h2, f4_inx h2]
      exact okI.t rfl rfl rfl rfl (by decide)
set_option maxHeartbeats 2000000 in
set_option maxRecDepth 20000 in
theorem h_makeFolder : F_X3_hindranceOfRoom (E1 2 5) = some 0 := by decide +kernel
set_option maxHeartbeats 2000000 in
set_option maxRecDepth 20000 in
theorem g_makeFolder : (fun k : Nat => (match F_X4_make MR 0 ((k + 1 : Nat) : Int) 2 with | some z => decide (z.1 = 1) && decide (F_X4_thrown z.2 = some 0) | none => false)) = fun _ => true := by eq_refl
set_option maxHeartbeats 2000000 in
set_option maxRecDepth 20000 in
theorem p_makeFolder (a1 a2 : Int) : okI (F_X3_makeFolder M0 a1 a2) (T_X3_makeFolder M0 a1 a2) (F_X4_makeFolder MR a1 a2) (fun E => if E = 1 then 1 else if E = 2 then 2 else if E = 3 then 3 else 0) := by
  by_cases h1 : a1 = 0
  · subst h1
    by_cases h2 : (1 : Int) ≤ a2 ∧ a2 ≤ 99
    · have e3 : F_X3_makeFolder M0 0 a2 = xb2 (R3_make M0 2 0 a2) fun y3 M4 => some (y3, M4) := by
        simp only [F_X3_makeFolder, F_X3_makeEmpty, F_X3_needEntry, xt_n, xt_s, xb1_s, xb2_s, xl_e, t3_pow, f3_pow, t3_node0, f3_node0, t3_open, f4_off, f4_ref, f4_node0, f4_open, mr12, f3_in h2, congrFun g_hind a2, sd0, if_pos]
        rfl
      have e4 : F_X4_makeFolder MR 0 a2 = xb2 (F_X4_make MR 0 a2 2) fun y3 M4 => some (y3, M4) := by
        unfold F_X4_makeFolder
        rw [rf0 h2, xb2_s, if_pos rfl]
      rw [e3, e4, xb2_id, xb2_id]
      obtain ⟨k, rfl⟩ := pos_nat h2
      exact ck1 (R3_ok h_makeFolder) (congrFun g_makeFolder k)
    · simp only [T_X3_makeFolder, F_X4_makeFolder, T_X3_needEntry, T_X3_needTwoEntries, T_X3_needLive, T_X3_needBytes, F_X3_needEntry, F_X3_needTwoEntries, F_X3_needLive, F_X3_needBytes, F_X4_isRefused, F_X4_isRefusedNode, F_X4_isRefusedHandle, F_X4_isRefusedAt, F_X4_isRefusedUser, F_X4_isRefusedRow, F_X4_isRefusedBoth, F_X4_isName, xt_n, xt_s, xb1_s, xb2_s, xl_e, t3_pow, f3_pow, t3_node0, f3_node0, t3_open, f4_off, f4_ref, f4_node0, f4_open, mr12, t3_inx h2, f4_inx h2]
      exact okI.t rfl rfl rfl rfl (by decide)
  · by_cases h2 : (1 : Int) ≤ a2 ∧ a2 ≤ 99
    · simp only [T_X3_makeFolder, F_X4_makeFolder, T_X3_needEntry, T_X3_needTwoEntries, T_X3_needLive, T_X3_needBytes, F_X3_needEntry, F_X3_needTwoEntries, F_X3_needLive, F_X3_needBytes, F_X4_isRefused, F_X4_isRefusedNode, F_X4_isRefusedHandle, F_X4_isRefusedAt, F_X4_isRefusedUser, F_X4_isRefusedRow, F_X4_isRefusedBoth, F_X4_isName, xt_n, xt_s, xb1_s, xb2_s, xl_e, t3_pow, f3_pow, t3_node0, f3_node0, t3_open, f4_off, f4_ref, f4_node0, f4_open, mr12, t3_node h1, f4_node h1, t3_in h2, f3_in h2, f4_in h2]
      exact okI.t rfl rfl rfl rfl (by decide)
    · simp only [T_X3_makeFolder, F_X4_makeFolder, T_X3_needEntry, T_X3_needTwoEntries, T_X3_needLive, T_X3_needBytes, F_X3_needEntry, F_X3_needTwoEntries, F_X3_needLive, F_X3_needBytes, F_X4_isRefused, F_X4_isRefusedNode, F_X4_isRefusedHandle, F_X4_isRefusedAt, F_X4_isRefusedUser, F_X4_isRefusedRow, F_X4_isRefusedBoth, F_X4_isName, xt_n, xt_s, xb1_s, xb2_s, xl_e, t3_pow, f3_pow, t3_node0, f3_node0, t3_open, f4_off, f4_ref, f4_node0, f4_open, mr12, t3_node h1, f4_node h1, t3_inx h2, f4_inx h2]
      exact okI.t rfl rfl rfl rfl (by decide)
def R3_setOwner (M5 : Mm) (a1 a2 : Int) : Option (Int × Mm) := (xk (M5 0 0 1 = 0 ∨ M5 0 0 1 = 1) (xb1 (F_X2_at M5 ((M5 0 0 1).toNat) a1) fun y9 => (xl (mup M5 2 y9 1 a2) fun M12 => (xk (M12 0 0 0 = 0 ∨ M12 0 0 0 = 1) (xb1 (F_X2_at M12 ((M12 0 0 0).toNat) a1) fun y16 => (xb2 (F_X3_settle M12 (M12 2 y16 1)) fun y21 M22 => (some (y21, M22))))))))
set_option maxHeartbeats 2000000 in
set_option maxRecDepth 20000 in
theorem g_setOwner : ((List.range 4).all fun i => ckI (R3_setOwner M0 0 (0 + (i : Int))) (F_X4_setOwner MR 0 (0 + (i : Int)))) = true := by decide +kernel
set_option maxHeartbeats 2000000 in
set_option maxRecDepth 20000 in
theorem p_setOwner (a1 : Int) (a2 : Int) : okI (F_X3_setOwner M0 a1 a2) (T_X3_setOwner M0 a1 a2) (F_X4_setOwner MR a1 a2) (fun E => if E = 1 then 1 else if E = 2 then 2 else if E = 3 then 3 else 0) := by
  by_cases ha1 : a1 = 0
  · subst ha1
    by_cases ha2 : (0 : Int) ≤ a2 ∧ a2 ≤ 3
    · skip
      obtain ⟨ia2, hia2, rfl⟩ := in_nat (n := 4) ha2 (by decide)
      rw [show F_X3_setOwner M0 0 (0 + (ia2 : Int)) = R3_setOwner M0 0 (0 + (ia2 : Int)) by
        simp only [F_X3_setOwner, xt_n, xt_s, xb1_s, xb2_s, xl_e, t3_pow, f3_pow, t3_node0, f3_node0, t3_open, f4_off, f4_ref, f4_node0, f4_open, mr12, f3_in ha2, sd0]
        rfl]
      exact ckI.ok (List.all_eq_true.mp g_setOwner ia2 (List.mem_range.mpr hia2))
    · skip
      simp only [T_X3_setOwner, F_X4_setOwner, T_X3_needEntry, T_X3_needTwoEntries, T_X3_needLive, T_X3_needBytes, F_X3_needEntry, F_X3_needTwoEntries, F_X3_needLive, F_X3_needBytes, F_X4_isRefused, F_X4_isRefusedNode, F_X4_isRefusedHandle, F_X4_isRefusedAt, F_X4_isRefusedUser, F_X4_isRefusedRow, F_X4_isRefusedBoth, F_X4_isName, xt_n, xt_s, xb1_s, xb2_s, xl_e, t3_pow, f3_pow, t3_node0, f3_node0, t3_open, f4_off, f4_ref, f4_node0, f4_open, mr12, t3_inx ha2, f4_inx ha2]
      exact okI.t rfl rfl rfl rfl (by decide)
  · skip
    by_cases ha2 : (0 : Int) ≤ a2 ∧ a2 ≤ 3
    · skip
      simp only [T_X3_setOwner, F_X4_setOwner, T_X3_needEntry, T_X3_needTwoEntries, T_X3_needLive, T_X3_needBytes, F_X3_needEntry, F_X3_needTwoEntries, F_X3_needLive, F_X3_needBytes, F_X4_isRefused, F_X4_isRefusedNode, F_X4_isRefusedHandle, F_X4_isRefusedAt, F_X4_isRefusedUser, F_X4_isRefusedRow, F_X4_isRefusedBoth, F_X4_isName, xt_n, xt_s, xb1_s, xb2_s, xl_e, t3_pow, f3_pow, t3_node0, f3_node0, t3_open, f4_off, f4_ref, f4_node0, f4_open, mr12, t3_node ha1, f4_node ha1, t3_in ha2, f3_in ha2, f4_in ha2]
      exact okI.t rfl rfl rfl rfl (by decide)
    · skip
      simp only [T_X3_setOwner, F_X4_setOwner, T_X3_needEntry, T_X3_needTwoEntries, T_X3_needLive, T_X3_needBytes, F_X3_needEntry, F_X3_needTwoEntries, F_X3_needLive, F_X3_needBytes, F_X4_isRefused, F_X4_isRefusedNode, F_X4_isRefusedHandle, F_X4_isRefusedAt, F_X4_isRefusedUser, F_X4_isRefusedRow, F_X4_isRefusedBoth, F_X4_isName, xt_n, xt_s, xb1_s, xb2_s, xl_e, t3_pow, f3_pow, t3_node0, f3_node0, t3_open, f4_off, f4_ref, f4_node0, f4_open, mr12, t3_node ha1, f4_node ha1, t3_inx ha2, f4_inx ha2]
      exact okI.t rfl rfl rfl rfl (by decide)
def R3_setQuota (M5 : Mm) (a1 a2 : Int) : Option (Int × Mm) := (xk (M5 0 0 1 = 0 ∨ M5 0 0 1 = 1) (xb1 (F_X2_limit M5 ((M5 0 0 1).toNat) a1 a2) fun M9 => (xk (M9 0 0 0 = 0 ∨ M9 0 0 0 = 1) (xb1 (F_X2_limitOf M9 ((M9 0 0 0).toNat) a1) fun y13 => (xb2 (F_X3_settle M9 y13) fun y16 M17 => (some (y16, M17)))))))
def R4_setQuota (M3 : Mm) (a1 a2 : Int) : Option (Int × Mm) := (xk (rg ((1600 : Int) + a1)) (xk (0 ≤ ((1600 : Int) + a1) ∧ ((1600 : Int) + a1) < 4805) (xb1 (F_X4_begin M3 ) fun M14 => (xk (rg ((1600 : Int) + a1)) (xk (0 ≤ ((1600 : Int) + a1) ∧ ((1600 : Int) + a1) < 4805) (xl (mup M14 3 0 ((1600 : Int) + a1).toNat a2) fun M17 => (xb2 (F_X4_done M17 (M3 1 0 ((1600 : Int) + a1).toNat)) fun y19 M20 => (some (y19, M20)))))))))
set_option maxHeartbeats 2000000 in
set_option maxRecDepth 20000 in
theorem h_setQuota : F_X3_hindranceOfRoom M0 = some 0 := by decide +kernel
theorem r3_setQuota {a1 a2 : Int} (h1 : (0 : Int) ≤ a1 ∧ a1 ≤ 3) : ∃ M', R3_setQuota M0 a1 a2 = some (120, M') := by
  have e1 : F_X2_limit M0 1 a1 a2 = some (mup M0 6 1 a1.toNat a2) := by
    unfold F_X2_limit
    rw [if_neg (by omega), if_neg (by omega), xk_t (by omega), xl_e]
  have e2 : F_X2_limitOf (mup M0 6 1 a1.toNat a2) 0 a1 = some 120 := by
    unfold F_X2_limitOf
    rw [if_neg (by omega), if_neg (by omega), xk_t (by omega), show (mup M0 6 1 a1.toNat a2) 6 0 a1.toNat = if a1.toNat < 4 then 120 else 0 from rfl, if_pos (by omega)]
  have e3 : F_X3_hindranceOfRoom (mup M0 6 1 a1.toNat a2) = some 0 := lim0 h_setQuota
  obtain ⟨M1, h1⟩ := set0 (M := mup M0 6 1 a1.toNat a2) (y := 120) e3 rfl rfl rfl rfl
  unfold R3_setQuota
  rw [xk_t m0x, show ((M0 0 0 1).toNat) = 1 from rfl, e1, xb1_s, xk_t (show (mup M0 6 1 a1.toNat a2) 0 0 0 = 0 ∨ (mup M0 6 1 a1.toNat a2) 0 0 0 = 1 from Or.inl rfl), show (((mup M0 6 1 a1.toNat a2) 0 0 0).toNat) = 0 from rfl, e2, xb1_s, h1]
  exact ⟨_, rfl⟩
set_option maxHeartbeats 2000000 in
set_option maxRecDepth 20000 in
theorem g_setQuota : (fun a2 : Int => (List.range 4).all fun i => (match R4_setQuota MR (0 + (i : Int)) a2 with | some z => decide (z.1 = 120) && decide (F_X4_thrown z.2 = some 0) | none => false)) = fun _ => true := by eq_refl
set_option maxHeartbeats 2000000 in
set_option maxRecDepth 20000 in
theorem p_setQuota (a1 a2 : Int) : okI (F_X3_setQuota M0 a1 a2) (T_X3_setQuota M0 a1 a2) (F_X4_setQuota MR a1 a2) (fun E => if E = 1 then 1 else if E = 3 then 2 else 0) := by
  by_cases h1 : (0 : Int) ≤ a1 ∧ a1 ≤ 3
  · by_cases h2 : (0 : Int) ≤ a2 ∧ a2 ≤ 120
    · have e3 : F_X3_setQuota M0 a1 a2 = R3_setQuota M0 a1 a2 := by
        simp only [F_X3_setQuota, xt_n, xt_s, xb1_s, xb2_s, xl_e, t3_pow, f3_pow, t3_node0, f3_node0, t3_open, f4_off, f4_ref, f4_node0, f4_open, mr12, f3_in h1, f3_in h2, sd0]
        rfl
      have e4 : F_X4_setQuota MR a1 a2 = R4_setQuota MR a1 a2 := by
        simp only [F_X4_setQuota, F_X4_isRefusedUser, xt_n, xt_s, xb1_s, xb2_s, xl_e, t3_pow, f3_pow, t3_node0, f3_node0, t3_open, f4_off, f4_ref, f4_node0, f4_open, mr12, f4_in h1, f4_in h2]
        rfl
      rw [e3, e4]
      have hr := r3_setQuota (a2 := a2) h1
      obtain ⟨i, hi, rfl⟩ := in_nat (n := 4) h1 (by decide)
      exact ck1 hr (List.all_eq_true.mp (congrFun g_setQuota a2) i (List.mem_range.mpr hi))
    · simp only [T_X3_setQuota, F_X4_setQuota, T_X3_needEntry, T_X3_needTwoEntries, T_X3_needLive, T_X3_needBytes, F_X3_needEntry, F_X3_needTwoEntries, F_X3_needLive, F_X3_needBytes, F_X4_isRefused, F_X4_isRefusedNode, F_X4_isRefusedHandle, F_X4_isRefusedAt, F_X4_isRefusedUser, F_X4_isRefusedRow, F_X4_isRefusedBoth, F_X4_isName, xt_n, xt_s, xb1_s, xb2_s, xl_e, t3_pow, f3_pow, t3_node0, f3_node0, t3_open, f4_off, f4_ref, f4_node0, f4_open, mr12, t3_in h1, f3_in h1, f4_in h1, t3_inx h2, f4_inx h2]
      exact okI.t rfl rfl rfl rfl (by decide)
  · simp only [T_X3_setQuota, F_X4_setQuota, T_X3_needEntry, T_X3_needTwoEntries, T_X3_needLive, T_X3_needBytes, F_X3_needEntry, F_X3_needTwoEntries, F_X3_needLive, F_X3_needBytes, F_X4_isRefused, F_X4_isRefusedNode, F_X4_isRefusedHandle, F_X4_isRefusedAt, F_X4_isRefusedUser, F_X4_isRefusedRow, F_X4_isRefusedBoth, F_X4_isName, xt_n, xt_s, xb1_s, xb2_s, xl_e, t3_pow, f3_pow, t3_node0, f3_node0, t3_open, f4_off, f4_ref, f4_node0, f4_open, mr12, t3_inx h1, f4_inx h1]
    exact okI.t rfl rfl rfl rfl (by decide)
def R3_makeLink (M7 : Mm) (v1 v2 v3 v4 v5 : Int) : Option (Int × Mm) := (xk (M7 0 0 1 = 0 ∨ M7 0 0 1 = 1) (xb2 (F_X2_make M7 ((M7 0 0 1).toNat) (3 : Int) v1 v2) fun y11 M12 => (xk (M12 0 0 1 = 0 ∨ M12 0 0 1 = 1) (xb1 (F_X2_at M12 ((M12 0 0 1).toNat) y11) fun y17 => (xb1 (F_X1_aim M12 y17 v3 v4 v5) fun M21 => (xb2 (F_X3_settle M21 y11) fun y23 M24 => (some (y23, M24))))))))
set_option maxHeartbeats 2000000 in
set_option maxRecDepth 20000 in
theorem h_makeLink : F_X3_hindranceOfRoom (E1 3 5) = some 0 := by decide +kernel
def E2 (a b1 b2 b3 : Int) : Mm := mup (mup (mup (E1 3 a) 2 34 5 b1) 2 34 6 b2) 2 34 7 b3
theorem agE2 {a b1 b2 b3 : Int} : agH (E2 a b1 b2 b3) (E1 3 5) := by
  refine ⟨fun _ _ => rfl, fun _ _ => rfl, fun i => ⟨?_, ?_, ?_⟩, fun _ _ => rfl, fun _ _ => rfl⟩
  all_goals
    unfold E2 mup
    rw [if_neg (by omega), if_neg (by omega), if_neg (by omega)]
    rfl
theorem R3L_ok {a b1 b2 b3 : Int} : ∃ M', R3_makeLink M0 0 a b1 b2 b3 = some (1, M') := by
  obtain ⟨M1, h1⟩ := set0 (M := E2 a b1 b2 b3) (y := 1) ((cgH agE2).trans h_makeLink) rfl rfl rfl rfl
  unfold R3_makeLink
  rw [xk_t m0x, show ((M0 0 0 1).toNat) = 1 from rfl, mk1, xb2_s, xk_t (show (E1 3 a) 0 0 1 = 0 ∨ (E1 3 a) 0 0 1 = 1 from Or.inr rfl), show (((E1 3 a) 0 0 1).toNat) = 1 from rfl, show F_X2_at (E1 3 a) 1 1 = some 34 from rfl, xb1_s]
  show ∃ M', xb1 (some (E2 a b1 b2 b3)) _ = _
  rw [xb1_s, h1]
  exact ⟨_, rfl⟩
set_option maxHeartbeats 2000000 in
set_option maxRecDepth 20000 in
theorem g_makeLink : (fun (k : Nat) (a3 a4 a5 : Int) => (match F_X4_makeLink_59 MR 0 ((k + 1 : Nat) : Int) a3 a4 a5 with | some z => decide (z.1 = 1) && decide (F_X4_thrown z.2 = some 0) | none => false)) = fun _ _ _ _ => true := by eq_refl
theorem f37 {v2 v3 v4 v5 s1 s2 s3 : Int} (h : s2 ≤ s1 ∧ s1 ≤ s3) : F_X3_makeLink_37 M0 0 v2 v3 v4 v5 s1 s2 s3 = R3_makeLink M0 0 v2 v3 v4 v5 := by
  simp only [F_X3_makeLink_37, xb1_s, f3_in h, congrFun g_hind v2, sd0]
  rfl
set_option maxHeartbeats 2000000 in
set_option maxRecDepth 20000 in
theorem p_makeLink (a1 a2 a3 a4 a5 : Int) : okI (F_X3_makeLink M0 a1 a2 a3 a4 a5) (T_X3_makeLink M0 a1 a2 a3 a4 a5) (F_X4_makeLink MR a1 a2 a3 a4 a5) (fun E => if E = 1 then 1 else if E = 2 then 2 else if E = 3 then 3 else 0) := by
  by_cases h1 : a1 = 0
  · subst h1
    by_cases h2 : (1 : Int) ≤ a2 ∧ a2 ≤ 99
    · by_cases h3 : (-1 : Int) ≤ a3 ∧ a3 ≤ 3
      · by_cases h4 : (0 : Int) ≤ a4 ∧ a4 ≤ 99
        · by_cases h5 : (0 : Int) ≤ a5 ∧ a5 ≤ 99
          · have key : okI (R3_makeLink M0 0 a2 a3 a4 a5) (T_X3_makeLink M0 0 a2 a3 a4 a5) (F_X4_makeLink_59 MR 0 a2 a3 a4 a5) (fun E => if E = 1 then 1 else if E = 2 then 2 else if E = 3 then 3 else 0) := by
              obtain ⟨k, rfl⟩ := pos_nat h2
              exact ck1 R3L_ok (congrFun (congrFun (congrFun (congrFun g_makeLink k) a3) a4) a5)
            by_cases z4 : a4 = 0
            · by_cases z5 : a5 ≤ 0
              · have e3 : F_X3_makeLink M0 0 a2 a3 a4 a5 = R3_makeLink M0 0 a2 a3 a4 a5 := by
                  unfold F_X3_makeLink
                  simp only [F_X3_needEntry, xt_n, xt_s, xb1_s, xb2_s, xl_e, t3_pow, f3_pow, t3_node0, f3_node0, t3_open, f4_off, f4_ref, f4_node0, f4_open, mr12, f3_in h2, f3_in h3, f3_in h4]
                  rw [if_pos z4, f37 (by omega)]
                have e4 : F_X4_makeLink MR 0 a2 a3 a4 a5 = F_X4_makeLink_59 MR 0 a2 a3 a4 a5 := by
                  unfold F_X4_makeLink
                  rw [rf0 h2, xb2_s, if_pos rfl, f4_in h3, xb1_s, if_neg (by decide), f4_in h4, xb1_s, if_neg (by decide), f4_in h5, xb1_s, if_neg (by decide), if_pos z4, if_pos z5]
                rw [e3, e4]
                exact key
              · subst z4
                simp only [T_X3_makeLink, T_X3_makeLink_37, F_X4_makeLink, T_X3_needEntry, T_X3_needTwoEntries, T_X3_needLive, T_X3_needBytes, F_X3_needEntry, F_X3_needTwoEntries, F_X3_needLive, F_X3_needBytes, F_X4_isRefused, F_X4_isRefusedNode, F_X4_isRefusedHandle, F_X4_isRefusedAt, F_X4_isRefusedUser, F_X4_isRefusedRow, F_X4_isRefusedBoth, F_X4_isName, xt_n, xt_s, xb1_s, xb2_s, xl_e, t3_pow, f3_pow, t3_node0, f3_node0, t3_open, f4_off, f4_ref, f4_node0, f4_open, mr12, t3_in h2, f3_in h2, f4_in h2, t3_in h3, f3_in h3, f4_in h3, t3_in h4, f3_in h4, f4_in h4, f4_in h5, if_neg z5, t3_inx (show ¬ ((0 : Int) ≤ a5 ∧ a5 ≤ 0) by omega)]
                exact okI.t rfl rfl rfl rfl (by decide)
            · have e3 : F_X3_makeLink M0 0 a2 a3 a4 a5 = R3_makeLink M0 0 a2 a3 a4 a5 := by
                unfold F_X3_makeLink
                simp only [F_X3_needEntry, xt_n, xt_s, xb1_s, xb2_s, xl_e, t3_pow, f3_pow, t3_node0, f3_node0, t3_open, f4_off, f4_ref, f4_node0, f4_open, mr12, f3_in h2, f3_in h3, f3_in h4]
                rw [if_neg z4, f37 h5]
              have e4 : F_X4_makeLink MR 0 a2 a3 a4 a5 = F_X4_makeLink_59 MR 0 a2 a3 a4 a5 := by
                unfold F_X4_makeLink
                rw [rf0 h2, xb2_s, if_pos rfl, f4_in h3, xb1_s, if_neg (by decide), f4_in h4, xb1_s, if_neg (by decide), f4_in h5, xb1_s, if_neg (by decide), if_neg z4]
              rw [e3, e4]
              exact key
          · by_cases z4 : a4 = 0
            · subst z4
              simp only [T_X3_makeLink, T_X3_makeLink_37, F_X4_makeLink, T_X3_needEntry, T_X3_needTwoEntries, T_X3_needLive, T_X3_needBytes, F_X3_needEntry, F_X3_needTwoEntries, F_X3_needLive, F_X3_needBytes, F_X4_isRefused, F_X4_isRefusedNode, F_X4_isRefusedHandle, F_X4_isRefusedAt, F_X4_isRefusedUser, F_X4_isRefusedRow, F_X4_isRefusedBoth, F_X4_isName, xt_n, xt_s, xb1_s, xb2_s, xl_e, t3_pow, f3_pow, t3_node0, f3_node0, t3_open, f4_off, f4_ref, f4_node0, f4_open, mr12, t3_in h2, f3_in h2, f4_in h2, t3_in h3, f3_in h3, f4_in h3, t3_in h4, f3_in h4, f4_in h4, f4_inx h5, t3_inx (show ¬ ((0 : Int) ≤ a5 ∧ a5 ≤ 0) by omega)]
              exact okI.t rfl rfl rfl rfl (by decide)
            · skip
              simp only [T_X3_makeLink, T_X3_makeLink_37, F_X4_makeLink, T_X3_needEntry, T_X3_needTwoEntries, T_X3_needLive, T_X3_needBytes, F_X3_needEntry, F_X3_needTwoEntries, F_X3_needLive, F_X3_needBytes, F_X4_isRefused, F_X4_isRefusedNode, F_X4_isRefusedHandle, F_X4_isRefusedAt, F_X4_isRefusedUser, F_X4_isRefusedRow, F_X4_isRefusedBoth, F_X4_isName, xt_n, xt_s, xb1_s, xb2_s, xl_e, t3_pow, f3_pow, t3_node0, f3_node0, t3_open, f4_off, f4_ref, f4_node0, f4_open, mr12, t3_in h2, f3_in h2, f4_in h2, t3_in h3, f3_in h3, f4_in h3, t3_in h4, f3_in h4, f4_in h4, f4_inx h5, t3_inx h5, if_neg z4]
              exact okI.t rfl rfl rfl rfl (by decide)
        · skip
          simp only [T_X3_makeLink, T_X3_makeLink_37, F_X4_makeLink, T_X3_needEntry, T_X3_needTwoEntries, T_X3_needLive, T_X3_needBytes, F_X3_needEntry, F_X3_needTwoEntries, F_X3_needLive, F_X3_needBytes, F_X4_isRefused, F_X4_isRefusedNode, F_X4_isRefusedHandle, F_X4_isRefusedAt, F_X4_isRefusedUser, F_X4_isRefusedRow, F_X4_isRefusedBoth, F_X4_isName, xt_n, xt_s, xb1_s, xb2_s, xl_e, t3_pow, f3_pow, t3_node0, f3_node0, t3_open, f4_off, f4_ref, f4_node0, f4_open, mr12, t3_in h2, f3_in h2, f4_in h2, t3_in h3, f3_in h3, f4_in h3, t3_inx h4, f4_inx h4]
          exact okI.t rfl rfl rfl rfl (by decide)
      · skip
        simp only [T_X3_makeLink, T_X3_makeLink_37, F_X4_makeLink, T_X3_needEntry, T_X3_needTwoEntries, T_X3_needLive, T_X3_needBytes, F_X3_needEntry, F_X3_needTwoEntries, F_X3_needLive, F_X3_needBytes, F_X4_isRefused, F_X4_isRefusedNode, F_X4_isRefusedHandle, F_X4_isRefusedAt, F_X4_isRefusedUser, F_X4_isRefusedRow, F_X4_isRefusedBoth, F_X4_isName, xt_n, xt_s, xb1_s, xb2_s, xl_e, t3_pow, f3_pow, t3_node0, f3_node0, t3_open, f4_off, f4_ref, f4_node0, f4_open, mr12, t3_in h2, f3_in h2, f4_in h2, t3_inx h3, f4_inx h3]
        exact okI.t rfl rfl rfl rfl (by decide)
    · skip
      simp only [T_X3_makeLink, T_X3_makeLink_37, F_X4_makeLink, T_X3_needEntry, T_X3_needTwoEntries, T_X3_needLive, T_X3_needBytes, F_X3_needEntry, F_X3_needTwoEntries, F_X3_needLive, F_X3_needBytes, F_X4_isRefused, F_X4_isRefusedNode, F_X4_isRefusedHandle, F_X4_isRefusedAt, F_X4_isRefusedUser, F_X4_isRefusedRow, F_X4_isRefusedBoth, F_X4_isName, xt_n, xt_s, xb1_s, xb2_s, xl_e, t3_pow, f3_pow, t3_node0, f3_node0, t3_open, f4_off, f4_ref, f4_node0, f4_open, mr12, t3_inx h2, f4_inx h2]
      exact okI.t rfl rfl rfl rfl (by decide)
  · skip
    simp only [T_X3_makeLink, T_X3_makeLink_37, F_X4_makeLink, T_X3_needEntry, T_X3_needTwoEntries, T_X3_needLive, T_X3_needBytes, F_X3_needEntry, F_X3_needTwoEntries, F_X3_needLive, F_X3_needBytes, F_X4_isRefused, F_X4_isRefusedNode, F_X4_isRefusedHandle, F_X4_isRefusedAt, F_X4_isRefusedUser, F_X4_isRefusedRow, F_X4_isRefusedBoth, F_X4_isName, xt_n, xt_s, xb1_s, xb2_s, xl_e, t3_pow, f3_pow, t3_node0, f3_node0, t3_open, f4_off, f4_ref, f4_node0, f4_open, mr12, t3_node h1, f4_node h1]
    exact okI.t rfl rfl rfl rfl (by decide)

