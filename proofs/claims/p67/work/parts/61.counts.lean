/-! WHAT IS COUNTED ON A SOUND DISK: names, blocks, users, files without names -/
theorem occ_bd {M : Mm} {i : Nat} {x : Int} : occ M i x ≤ 12 := by
  have h := sm_bd (f := fun k => if (k : Int) < M 2 i 8 ∧ M 4 i k = x then 1 else 0) (c := 1) (k := 0) (j := 12) (fun k _ _ => by
    show (if (k : Int) < M 2 i 8 ∧ M 4 i k = x then (1 : Int) else 0) ≤ 1
    split <;> decide)
  unfold occ
  omega
theorem occ_0 {M : Mm} {i : Nat} {x : Int} (h : M 2 i 8 = 0) : occ M i x = 0 :=
  (sm_congr (g := fun _ => 0) fun k _ _ => if_neg (fun v => by have := v.1; omega)).trans sm_zero
theorem occ_e {M : Mm} {i e : Nat} {x : Int} (h8 : M 2 i 8 = e) (he : e ≤ 12) : sm (fun k => if (k : Int) < M 2 i 8 ∧ M 4 i k = x then 1 else 0) 0 e = occ M i x := by
  have s := sm_split (f := fun k => if (k : Int) < M 2 i 8 ∧ M 4 i k = x then 1 else 0) (k := 0) (a := e) (b := 12 - e)
  rw [show e + (12 - e) = 12 by omega] at s
  have z : sm (fun k => if (k : Int) < M 2 i 8 ∧ M 4 i k = x then 1 else 0) (0 + e) (12 - e) = 0 :=
    (sm_congr (g := fun _ => 0) fun k h1 _ => if_neg (fun v => by have := v.1; omega)).trans sm_zero
  rw [z, Int.add_zero] at s
  exact s.symm
/-- at most one place, and at most 1 there -/
theorem sm_one {f : Nat → Int} {k j : Nat} (h1 : ∀ i, f i ≤ 1) (h2 : ∀ i i', f i ≠ 0 → f i' ≠ 0 → i = i') : sm f k j ≤ 1 := by
  by_cases z : sm f k j = 0
  · omega
  · obtain ⟨a, ha, hb, hc⟩ := sm_ex z
    have e : sm (fun _ => (0 : Int)) k j = sm f k j - f a + 0 := sm_upd (f := f) (g := fun _ => 0) (a := a) ha hb (fun i _ _ hi => by
      show (0 : Int) = f i
      by_cases y : f i = 0
      · exact y.symm
      · exact absurd (h2 i a y hc) hi)
    rw [sm_zero] at e
    have := h1 a
    omega
theorem ext_f {M : Mm} {i : Nat} (h : M 2 i 0 = 2) : ext M i = M 2 i 8 := if_pos h
/-- shared places are places -/
theorem shr_le {M : Mm} {o n : Nat} (g : G2 M o) (he : Er M o) (hn : n < 32) : shr M o (33 * o + n) ≤ own M (33 * o + n) := by
  have e := he n hn
  by_cases z : M 2 (33 * o + n) 0 = 2
  · have s : shr M o (33 * o + n) = 0 := (sm_congr (g := fun _ => 0) fun p _ hp => by
      have h := ((g.1 n hn).2.2 p (by omega)).2.1 (by omega)
      show (if (if M 5 (33 * o + n) p = 0 then (0 : Int) else if M 8 o (M 5 (33 * o + n) p).toNat ≤ 1 then 0 else 1) = 0 then (0 : Int) else 1) = 0
      rw [if_pos (show (if M 5 (33 * o + n) p = 0 then (0 : Int) else if M 8 o (M 5 (33 * o + n) p).toNat ≤ 1 then 0 else 1) = 0 by rw [if_pos h])]).trans sm_zero
    rw [s]
    exact (own_bd e).1
  · unfold own
    rw [if_neg z]
    refine sm_le fun p _ hp => ?_
    show (if (if M 5 (33 * o + n) p = 0 then (0 : Int) else if M 8 o (M 5 (33 * o + n) p).toNat ≤ 1 then 0 else 1) = 0 then (0 : Int) else 1) ≤ if M 5 (33 * o + n) p = 0 then 0 else 1
    by_cases y : M 5 (33 * o + n) p = 0
    · rw [if_pos (show (if M 5 (33 * o + n) p = 0 then (0 : Int) else if M 8 o (M 5 (33 * o + n) p).toNat ≤ 1 then 0 else 1) = 0 by rw [if_pos y]), if_pos y]
      exact Int.le_refl 0
    · rw [if_neg y, if_neg y]
      split <;> decide
/-- the places of a file stand within its size -/
theorem own16 {M : Mm} {o n : Nat} (g : G2 M o) (hn : n < 32) (hs : M 2 (33 * o + n) 0 = 1) : 16 * own M (33 * o + n) ≤ M 2 (33 * o + n) 3 + 15 := by
  obtain ⟨b1, -, b3⟩ := g.1 n hn
  obtain ⟨e, he⟩ : ∃ e : Nat, M 2 (33 * o + n) 3 = e := ⟨(M 2 (33 * o + n) 3).toNat, by omega⟩
  obtain ⟨c, hc⟩ : ∃ c : Nat, c = (e + 15) / 16 := ⟨_, rfl⟩
  have s := sm_split (f := fun p => if M 5 (33 * o + n) p = 0 then (0 : Int) else 1) (k := 0) (a := c) (b := 20 - c)
  rw [show c + (20 - c) = 20 by omega] at s
  have z : sm (fun p => if M 5 (33 * o + n) p = 0 then (0 : Int) else 1) (0 + c) (20 - c) = 0 :=
    (sm_congr (g := fun _ => 0) fun p h1 h2 => if_pos (by
      have h := (b3 p (by omega)).2.2
      by_cases y : M 5 (33 * o + n) p = 0
      · exact y
      · have := h y
        omega)).trans sm_zero
  have u := sm_bd (f := fun p => if M 5 (33 * o + n) p = 0 then (0 : Int) else 1) (c := 1) (k := 0) (j := c) (fun p _ _ => by
    show (if M 5 (33 * o + n) p = 0 then (0 : Int) else 1) ≤ 1
    split <;> decide)
  unfold own
  rw [if_neg (by omega), s, z, he]
  omega
/-- all that is used has a place -/
theorem used_le {M : Mm} {o : Nat} (g1 : G1 M o) (g : G2 M o) : usedT M o ≤ sm (fun n => own M (33 * o + n)) 0 32 := by
  have A : sm (fun b => if 0 < M 8 o b then 1 else 0) 0 128 ≤ sm (fun n => sm (fun p => if M 5 (33 * o + n) p = 0 then 0 else 1) 0 20) 0 32 := by
    have a1 : sm (fun b => if 0 < M 8 o b then 1 else 0) 0 128 ≤ sm (fun b => sm (fun n => sm (fun p => if b = 0 then 0 else if M 5 (33 * o + n) p = (b : Int) then 1 else 0) 0 20) 0 32) 0 128 := sm_le fun b _ hb => by
      by_cases z : b = 0
      · rw [z, g.2.1, if_neg (by decide)]
        exact sm_nn fun n _ _ => sm_nn fun p _ _ => by rw [if_pos rfl]; exact Int.le_refl 0
      · have e : sm (fun n => sm (fun p => if b = 0 then 0 else if M 5 (33 * o + n) p = (b : Int) then 1 else 0) 0 20) 0 32 = M 8 o b := by
          rw [g.2.2 b (by omega) (by omega)]
          exact sm_congr fun n _ _ => sm_congr fun p _ _ => if_neg z
        have nn := (Hld.bd g.2 (show b < 128 by omega)).1
        rw [e]
        split <;> omega
    rw [sm_swap] at a1
    refine Int.le_trans a1 (sm_le fun n _ hn => ?_)
    rw [sm_swap]
    refine sm_le fun p _ hp => ?_
    by_cases y : M 5 (33 * o + n) p = 0
    · rw [if_pos y]
      refine Int.le_of_eq ((sm_congr (g := fun _ => 0) fun b _ _ => ?_).trans sm_zero)
      by_cases z : b = 0
      · rw [if_pos z]
      · rw [if_neg z, if_neg (by omega)]
    · rw [if_neg y]
      refine sm_one (fun b => ?_) (fun b b' h h' => ?_)
      · split
        · decide
        · split <;> decide
      · by_cases z : b = 0
        · rw [if_pos z] at h
          exact absurd rfl h
        · by_cases z' : b' = 0
          · rw [if_pos z'] at h'
            exact absurd rfl h'
          · rw [if_neg z] at h
            rw [if_neg z'] at h'
            by_cases w : M 5 (33 * o + n) p = (b : Int)
            · by_cases w' : M 5 (33 * o + n) p = (b' : Int)
              · omega
              · rw [if_neg w'] at h'
                exact absurd rfl h'
            · rw [if_neg w] at h
              exact absurd rfl h
  have B : sm (fun n => sm (fun p => if M 5 (33 * o + n) p = 0 then 0 else 1) 0 20 + if M 2 (33 * o + n) 0 = 2 then own M (33 * o + n) else 0) 0 32 ≤ sm (fun n => own M (33 * o + n)) 0 32 := sm_le fun n _ hn => by
    by_cases z : M 2 (33 * o + n) 0 = 2
    · have e : sm (fun p => if M 5 (33 * o + n) p = 0 then (0 : Int) else 1) 0 20 = 0 := (sm_congr (g := fun _ => 0) fun p _ hp => if_pos (((g.1 n (by omega)).2.2 p (by omega)).2.1 (by omega))).trans sm_zero
      rw [e, if_pos z]
      omega
    · have e : own M (33 * o + n) = sm (fun p => if M 5 (33 * o + n) p = 0 then 0 else 1) 0 20 := by
        unfold own
        rw [if_neg z]
      rw [e, if_neg z]
      omega
  rw [sm_add] at B
  unfold usedT
  omega
/-- each block has a user -/
theorem users_e {M : Mm} {o : Nat} (hr : ∀ n, n < 32 → 0 ≤ M 2 (33 * o + n) 1 ∧ M 2 (33 * o + n) 1 ≤ 3) : takB M o 0 + takB M o 1 + takB M o 2 + takB M o 3 = sm (fun n => own M (33 * o + n)) 0 32 := by
  unfold takB
  rw [← sm_add, ← sm_add, ← sm_add]
  refine sm_congr fun n _ hn => ?_
  have h := hr n (by omega)
  have c : M 2 (33 * o + n) 1 = 0 ∨ M 2 (33 * o + n) 1 = 1 ∨ M 2 (33 * o + n) 1 = 2 ∨ M 2 (33 * o + n) 1 = 3 := by omega
  rcases c with c | c | c | c <;> rw [c] <;> simp
def orpI (M : Mm) (o n : Nat) : Int := if M 2 (33 * o + n) 0 = 1 ∧ M 2 (33 * o + n) 2 = 0 then 1 else 0
theorem orpI_01 {M : Mm} {o n : Nat} : 0 ≤ orpI M o n ∧ orpI M o n ≤ 1 := by
  unfold orpI
  split <;> decide
/-- a file without names has a handle, and a handle has one file -/
theorem orp_le {M : Mm} {o : Nat} (h : OH M o) : sm (orpI M o) 0 32 ≤ opn M := by
  have a1 : sm (orpI M o) 0 32 ≤ sm (fun n => sm (fun h => if M 11 h 0 ≠ 0 ∧ M 11 h 1 = (n : Int) then 1 else 0) 0 6) 0 32 := sm_le fun n _ hn => by
    have nn : ∀ i, 0 ≤ (fun h => if M 11 h 0 ≠ 0 ∧ M 11 h 1 = (n : Int) then (1 : Int) else 0) i := fun i => by
      show (0 : Int) ≤ if M 11 i 0 ≠ 0 ∧ M 11 i 1 = (n : Int) then 1 else 0
      split <;> decide
    unfold orpI
    by_cases z : M 2 (33 * o + n) 0 = 1 ∧ M 2 (33 * o + n) 2 = 0
    · obtain ⟨i, h6, h0, h1⟩ := h n (by omega) z
      have s := sm_ge (f := fun h => if M 11 h 0 ≠ 0 ∧ M 11 h 1 = (n : Int) then (1 : Int) else 0) (a := i) (k := 0) (j := 6) (fun i _ _ => nn i) (by omega) (by omega)
      rw [if_pos ⟨h0, h1⟩] at s
      rw [if_pos z]
      exact s
    · rw [if_neg z]
      exact sm_nn fun i _ _ => nn i
  rw [sm_swap] at a1
  refine Int.le_trans a1 (sm_le fun i _ hi => ?_)
  by_cases z : M 11 i 0 = 0
  · rw [if_pos z]
    exact Int.le_of_eq ((sm_congr (g := fun _ => 0) fun n _ _ => if_neg (fun v => v.1 z)).trans sm_zero)
  · rw [if_neg z]
    refine sm_one (fun n => ?_) (fun n n' h h' => ?_)
    · split <;> decide
    · by_cases w : M 11 i 0 ≠ 0 ∧ M 11 i 1 = (n : Int)
      · by_cases w' : M 11 i 0 ≠ 0 ∧ M 11 i 1 = (n' : Int)
        · have a := w.2
          have b := w'.2
          omega
        · rw [if_neg w'] at h'
          exact absurd rfl h'
      · rw [if_neg w] at h
        exact absurd rfl h
