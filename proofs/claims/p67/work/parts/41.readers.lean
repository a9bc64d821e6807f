/-! WHAT THE ASKING FUNCTIONS ANSWER -/
theorem xk_t {P : Prop} [Decidable P] {α : Type} {k : Option α} (h : P) : xk P k = k := if_pos h
theorem xb1_s {α β : Type} {a : α} {f : α → Option β} : xb1 (some a) f = f a := rfl
theorem xb2_s {α γ β : Type} {a : α} {b : γ} {f : α → γ → Option β} : xb2 (some (a, b)) f = f a b := rfl
theorem xb3_s {α γ δ β : Type} {a : α} {b : γ} {c : δ} {f : α → γ → δ → Option β} : xb3 (some (a, b, c)) f = f a b c := rfl
theorem xl_e {α β : Type} {a : α} {f : α → Option β} : xl a f = f a := rfl
theorem suc {k : Nat} : (k : Int) + 1 = ((k + 1 : Nat) : Int) := by omega
theorem rgk {x : Int} (h : -1000000 ≤ x ∧ x ≤ 1000000) : rg x := ⟨by omega, by omega⟩
theorem at_ok {M : Mm} {o n : Nat} (h : n < 32) : F_X2_at M o (n : Int) = some (33 * o + n) := by
  unfold F_X2_at
  rw [if_neg (by omega), if_neg (by omega), xk_t (by omega)]
  rfl
theorem at_okI {M : Mm} {o : Nat} {n : Int} (h : 0 ≤ n ∧ n < 32) : F_X2_at M o n = some (33 * o + n.toNat) := by
  unfold F_X2_at
  rw [if_neg (by omega), if_neg (by omega), xk_t (by omega)]
theorem own20 {M : Mm} {i : Nat} : ∀ (j n k : Nat) (acc : Int), k + j = 20 → 0 ≤ acc ∧ acc ≤ k → F_X1_ownBlocks_20 M (n + j + 1) i acc (k : Int) = some (acc + sm (fun p => if M 5 i p = 0 then 0 else 1) k j)
  | 0, n, k, acc, h, ha => by
    unfold F_X1_ownBlocks_20
    rw [if_pos (by omega)]
    show some acc = some (acc + 0)
    rw [Int.add_zero]
  | j + 1, n, k, acc, h, ha => by
    show F_X1_ownBlocks_20 M ((n + j + 1) + 1) i acc k = some (acc + ((if M 5 i k = 0 then 0 else 1) + _))
    unfold F_X1_ownBlocks_20
    rw [if_neg (by omega), xk_t (by omega), Int.toNat_natCast]
    by_cases q : M 5 i k = 0
    · rw [if_pos q, if_pos q, xk_t (rgk (by omega)), suc, own20 j n (k + 1) acc (by omega) (by omega), Int.zero_add]
    · rw [if_neg q, if_neg q, xk_t (rgk (by omega)), xk_t (rgk (by omega)), suc, own20 j n (k + 1) (acc + 1) (by omega) (by omega), Int.add_assoc]
theorem own_ok {M : Mm} {i : Nat} (h : 0 ≤ M 2 i 8 ∧ M 2 i 8 ≤ 12) : F_X1_ownBlocks M i = some (own M i) := by
  unfold F_X1_ownBlocks own
  by_cases q : M 2 i 0 = 2
  · rw [if_pos q, if_pos q]
    unfold F_X1_blocksFor
    have e : Int.tdiv (M 2 i 8 + 3) 4 = (M 2 i 8 + 3) / 4 := Int.tdiv_eq_ediv_of_nonneg (by omega)
    rw [xk_t (rgk (by omega)), e, xk_t (rgk (by omega)), xb1_s]
  · rw [if_neg q, if_neg q]
    show F_X1_ownBlocks_20 M ((FU - 21) + 20 + 1) i 0 ((0 : Nat) : Int) = _
    rw [own20 20 (FU - 21) 0 0 (by decide) (by decide), Int.zero_add]
theorem own_bd {M : Mm} {i : Nat} (h : 0 ≤ M 2 i 8 ∧ M 2 i 8 ≤ 12) : 0 ≤ own M i ∧ own M i ≤ 20 := by
  unfold own
  by_cases q : M 2 i 0 = 2
  · rw [if_pos q]
    omega
  · rw [if_neg q]
    have h1 := sm_nn (f := fun p => if M 5 i p = 0 then 0 else 1) (k := 0) (j := 20) (fun p _ _ => by
      show (0 : Int) ≤ if M 5 i p = 0 then 0 else 1
      split <;> decide)
    have h2 := sm_bd (f := fun p => if M 5 i p = 0 then 0 else 1) (c := 1) (k := 0) (j := 20) (fun p _ _ => by
      show (if M 5 i p = 0 then (0 : Int) else 1) ≤ 1
      split <;> decide)
    omega
/-- the entries of all nodes are in their range -/
def Er (M : Mm) (o : Nat) : Prop := ∀ n, n < 32 → 0 ≤ M 2 (33 * o + n) 8 ∧ M 2 (33 * o + n) 8 ≤ 12
theorem G1.er {M : Mm} {o : Nat} (g : G1 M o) : Er M o := fun n hn => (g.2.2.1 n hn).1
theorem tak4 {M : Mm} {o : Nat} {u : Int} (he : Er M o) : ∀ (j n k : Nat) (acc : Int), k + j = 32 → 0 ≤ acc ∧ acc ≤ 20 * k → F_X2_takenBy_4 M (n + j + 1) o u acc (k : Int) = some (acc + sm (fun n => if M 2 (33 * o + n) 1 = u then own M (33 * o + n) else 0) k j)
  | 0, n, k, acc, h, ha => by
    unfold F_X2_takenBy_4
    rw [if_pos (by omega)]
    show some acc = some (acc + 0)
    rw [Int.add_zero]
  | j + 1, n, k, acc, h, ha => by
    show F_X2_takenBy_4 M ((n + j + 1) + 1) o u acc k = some (acc + ((if M 2 (33 * o + k) 1 = u then own M (33 * o + k) else 0) + _))
    have hb := own_bd (he k (by omega))
    unfold F_X2_takenBy_4
    rw [if_neg (by omega), xk_t (by omega), Int.toNat_natCast]
    by_cases q : M 2 (33 * o + k) 1 = u
    · rw [if_pos q, if_pos q, xk_t (by omega), own_ok (he k (by omega)), xb1_s, xk_t (rgk (by omega)), xk_t (rgk (by omega)), suc, tak4 he j n (k + 1) (acc + own M (33 * o + k)) (by omega) (by omega), Int.add_assoc]
    · rw [if_neg q, if_neg q, xk_t (rgk (by omega)), suc, tak4 he j n (k + 1) acc (by omega) (by omega), Int.zero_add]
theorem tak_ok {M : Mm} {o : Nat} {u : Int} (he : Er M o) : F_X2_takenBy M o u = some (takB M o u) := by
  show F_X2_takenBy_4 M ((FU - 33) + 32 + 1) o u 0 ((0 : Nat) : Int) = _
  rw [tak4 he 32 (FU - 33) 0 0 (by decide) (by decide), Int.zero_add]
  rfl
theorem bt33 {M : Mm} {o : Nat} (he : Er M o) : ∀ (j n k : Nat) (acc : Int), k + j = 32 → 0 ≤ acc ∧ acc ≤ 128 + 20 * k → F_X2_blocksTaken_33 M (n + j + 1) o acc (k : Int) = some (acc + sm (fun n => if M 2 (33 * o + n) 0 = 2 then own M (33 * o + n) else 0) k j)
  | 0, n, k, acc, h, ha => by
    unfold F_X2_blocksTaken_33
    rw [if_pos (by omega)]
    show some acc = some (acc + 0)
    rw [Int.add_zero]
  | j + 1, n, k, acc, h, ha => by
    show F_X2_blocksTaken_33 M ((n + j + 1) + 1) o acc k = some (acc + ((if M 2 (33 * o + k) 0 = 2 then own M (33 * o + k) else 0) + _))
    have hb := own_bd (he k (by omega))
    unfold F_X2_blocksTaken_33
    rw [if_neg (by omega), xk_t (by omega), Int.toNat_natCast]
    by_cases q : M 2 (33 * o + k) 0 = 2
    · rw [if_pos q, if_pos q, xk_t (by omega), own_ok (he k (by omega)), xb1_s, xk_t (rgk (by omega)), xk_t (rgk (by omega)), suc, bt33 he j n (k + 1) (acc + own M (33 * o + k)) (by omega) (by omega), Int.add_assoc]
    · rw [if_neg q, if_neg q, xk_t (rgk (by omega)), suc, bt33 he j n (k + 1) acc (by omega) (by omega), Int.zero_add]
theorem bt4 {M : Mm} {o : Nat} (he : Er M o) : ∀ (j n k : Nat) (acc : Int), k + j = 128 → 0 ≤ acc ∧ acc ≤ k → F_X2_blocksTaken_4 M (n + j + 1) o acc (k : Int) = some (acc + sm (fun b => if 0 < M 8 o b then 1 else 0) k j + sm (fun n => if M 2 (33 * o + n) 0 = 2 then own M (33 * o + n) else 0) 0 32)
  | 0, n, k, acc, h, ha => by
    unfold F_X2_blocksTaken_4
    rw [if_pos (by omega)]
    show F_X2_blocksTaken_33 M ((FU - 33) + 32 + 1) o acc ((0 : Nat) : Int) = some (acc + 0 + _)
    rw [bt33 he 32 (FU - 33) 0 acc (by decide) (by omega), Int.add_zero]
  | j + 1, n, k, acc, h, ha => by
    show F_X2_blocksTaken_4 M ((n + j + 1) + 1) o acc k = some (acc + ((if 0 < M 8 o k then 1 else 0) + _) + _)
    unfold F_X2_blocksTaken_4
    rw [if_neg (by omega), xk_t (by omega), Int.toNat_natCast]
    by_cases q : M 8 o k ≤ 0
    · rw [if_pos q, if_neg (by omega : ¬ 0 < M 8 o k), xk_t (rgk (by omega)), suc, bt4 he j n (k + 1) acc (by omega) (by omega), Int.zero_add]
    · rw [if_neg q, if_pos (by omega : 0 < M 8 o k), xk_t (rgk (by omega)), xk_t (rgk (by omega)), suc, bt4 he j n (k + 1) (acc + 1) (by omega) (by omega), Int.add_assoc acc 1]
theorem used_ok {M : Mm} {o : Nat} (he : Er M o) : F_X2_blocksTaken M o = some (usedT M o) := by
  show F_X2_blocksTaken_4 M ((FU - 129) + 128 + 1) o 0 ((0 : Nat) : Int) = _
  rw [bt4 he 128 (FU - 129) 0 0 (by decide) (by decide), Int.zero_add]
  rfl
def cntN (M : Mm) (o : Nat) : Int := sm (fun n => if M 2 (33 * o + n) 0 = 0 then 0 else 1) 0 32
theorem cnt4 {M : Mm} {o : Nat} : ∀ (j n k : Nat) (acc : Int), k + j = 32 → 0 ≤ acc ∧ acc ≤ k → F_X2_count_4 M (n + j + 1) o acc (k : Int) = some (acc + sm (fun n => if M 2 (33 * o + n) 0 = 0 then 0 else 1) k j)
  | 0, n, k, acc, h, ha => by
    unfold F_X2_count_4
    rw [if_pos (by omega)]
    show some acc = some (acc + 0)
    rw [Int.add_zero]
  | j + 1, n, k, acc, h, ha => by
    show F_X2_count_4 M ((n + j + 1) + 1) o acc k = some (acc + ((if M 2 (33 * o + k) 0 = 0 then 0 else 1) + _))
    unfold F_X2_count_4
    rw [if_neg (by omega), xk_t (by omega), Int.toNat_natCast]
    by_cases q : M 2 (33 * o + k) 0 = 0
    · rw [if_pos q, if_pos q, xk_t (rgk (by omega)), suc, cnt4 j n (k + 1) acc (by omega) (by omega), Int.zero_add]
    · rw [if_neg q, if_neg q, xk_t (rgk (by omega)), xk_t (rgk (by omega)), suc, cnt4 j n (k + 1) (acc + 1) (by omega) (by omega), Int.add_assoc]
theorem count_ok {M : Mm} {o : Nat} : F_X2_count M o = some (cntN M o) := by
  show F_X2_count_4 M ((FU - 33) + 32 + 1) o 0 ((0 : Nat) : Int) = _
  rw [cnt4 32 (FU - 33) 0 0 (by decide) (by decide), Int.zero_add]
  rfl
theorem cntN_bd {M : Mm} {o : Nat} : 0 ≤ cntN M o ∧ cntN M o ≤ 32 := by
  have h1 := sm_nn (f := fun n => if M 2 (33 * o + n) 0 = 0 then 0 else 1) (k := 0) (j := 32) (fun p _ _ => by
    show (0 : Int) ≤ if M 2 (33 * o + p) 0 = 0 then 0 else 1
    split <;> decide)
  have h2 := sm_bd (f := fun n => if M 2 (33 * o + n) 0 = 0 then 0 else 1) (c := 1) (k := 0) (j := 32) (fun p _ _ => by
    show (if M 2 (33 * o + p) 0 = 0 then (0 : Int) else 1) ≤ 1
    split <;> decide)
  unfold cntN
  omega
/-- where a node is wanting, a free number is found -/
theorem free2 {M : Mm} {o : Nat} : ∀ (j n k : Nat), k + j = 32 → sm (fun n => if M 2 (33 * o + n) 0 = 0 then 0 else 1) k j < j → ∃ f : Nat, f < 32 ∧ F_X2_freeNumber_2 M (n + j + 1) o (k : Int) = some (f : Int) ∧ M 2 (33 * o + f) 0 = 0
  | 0, n, k, h, hs => by
    have : sm (fun n => if M 2 (33 * o + n) 0 = 0 then 0 else 1) k 0 = 0 := rfl
    omega
  | j + 1, n, k, h, hs => by
    show ∃ f : Nat, f < 32 ∧ F_X2_freeNumber_2 M ((n + j + 1) + 1) o (k : Int) = some (f : Int) ∧ M 2 (33 * o + f) 0 = 0
    unfold F_X2_freeNumber_2
    rw [if_neg (by omega), xk_t (by omega), Int.toNat_natCast]
    by_cases q : M 2 (33 * o + k) 0 = 0
    · rw [if_pos q]
      exact ⟨k, by omega, rfl, q⟩
    · rw [if_neg q, xk_t (rgk (by omega)), suc]
      refine free2 j n (k + 1) (by omega) ?_
      have e : sm (fun n => if M 2 (33 * o + n) 0 = 0 then 0 else 1) k (j + 1) = (if M 2 (33 * o + k) 0 = 0 then 0 else 1) + sm (fun n => if M 2 (33 * o + n) 0 = 0 then 0 else 1) (k + 1) j := rfl
      rw [e, if_neg q] at hs
      omega
theorem free_ok {M : Mm} {o : Nat} (h : cntN M o < 32) : ∃ f : Nat, f < 32 ∧ F_X2_freeNumber M o = some (f : Int) ∧ M 2 (33 * o + f) 0 = 0 := free2 32 (FU - 33) 0 (by decide) h
/-- the slot of a name -/
theorem slot2 {M : Mm} {i : Nat} {a : Int} (he : 0 ≤ M 2 i 8 ∧ M 2 i 8 ≤ 12) : ∀ (j n k : Nat), k + j = 12 → (∀ q : Nat, q < k → (q : Int) < M 2 i 8 → M 3 i q ≠ a) → (F_X1_slotOf_2 M (n + j + 1) i a (k : Int) = some (-1) ∧ ∀ q : Nat, (q : Int) < M 2 i 8 → M 3 i q ≠ a) ∨ ∃ q : Nat, F_X1_slotOf_2 M (n + j + 1) i a (k : Int) = some (q : Int) ∧ (q : Int) < M 2 i 8 ∧ M 3 i q = a
  | 0, n, k, h, hk => by
    unfold F_X1_slotOf_2
    left
    by_cases q : M 2 i 8 ≤ (k : Int)
    · rw [if_pos q]
      exact ⟨rfl, fun x hx => hk x (by omega) hx⟩
    · rw [if_neg q, if_pos (by omega)]
      exact ⟨rfl, fun x hx => hk x (by omega) hx⟩
  | j + 1, n, k, h, hk => by
    show (F_X1_slotOf_2 M ((n + j + 1) + 1) i a (k : Int) = some (-1) ∧ _) ∨ ∃ q : Nat, F_X1_slotOf_2 M ((n + j + 1) + 1) i a (k : Int) = some (q : Int) ∧ _
    unfold F_X1_slotOf_2
    by_cases q : M 2 i 8 ≤ (k : Int)
    · rw [if_pos q]
      exact Or.inl ⟨rfl, fun x hx => hk x (by omega) hx⟩
    · rw [if_neg q, if_neg (by omega), xk_t (by omega), Int.toNat_natCast]
      by_cases z : M 3 i k = a
      · rw [if_pos z]
        exact Or.inr ⟨k, rfl, by omega, z⟩
      · rw [if_neg z, xk_t (rgk (by omega)), suc]
        refine slot2 he j n (k + 1) (by omega) (fun x hx1 hx2 => ?_)
        by_cases y : x = k
        · rw [y]
          exact z
        · exact hk x (by omega) hx2
theorem slot_ok {M : Mm} {i : Nat} {a : Int} (he : 0 ≤ M 2 i 8 ∧ M 2 i 8 ≤ 12) : (F_X1_slotOf M i a = some (-1) ∧ ∀ q : Nat, (q : Int) < M 2 i 8 → M 3 i q ≠ a) ∨ ∃ q : Nat, F_X1_slotOf M i a = some (q : Int) ∧ (q : Int) < M 2 i 8 ∧ M 3 i q = a :=
  slot2 he 12 (FU - 13) 0 (by decide) (fun q hq => by omega)
theorem nodeIn_ok {M : Mm} {i q : Nat} (he : 0 ≤ M 2 i 8 ∧ M 2 i 8 ≤ 12) (h : (q : Int) < M 2 i 8) : F_X1_nodeIn M i (q : Int) = some (M 4 i q) := by
  unfold F_X1_nodeIn
  rw [if_neg (by omega), if_neg (by omega), if_neg (by omega), xk_t (by omega), Int.toNat_natCast]
theorem nodeIn_no {M : Mm} {i : Nat} : F_X1_nodeIn M i (-1) = some (-1) := by
  unfold F_X1_nodeIn
  rw [if_pos (by decide)]
theorem named_ok {M : Mm} {i : Nat} {a : Int} (he : 0 ≤ M 2 i 8 ∧ M 2 i 8 ≤ 12) : (F_X1_nodeNamed M i a = some (-1) ∧ F_X1_slotOf M i a = some (-1) ∧ ∀ q : Nat, (q : Int) < M 2 i 8 → M 3 i q ≠ a) ∨ ∃ q : Nat, F_X1_nodeNamed M i a = some (M 4 i q) ∧ F_X1_slotOf M i a = some (q : Int) ∧ (q : Int) < M 2 i 8 ∧ M 3 i q = a := by
  unfold F_X1_nodeNamed
  rcases slot_ok (a := a) he with ⟨h1, h2⟩ | ⟨q, h1, h2, h3⟩
  · rw [h1, xb1_s, nodeIn_no, xb1_s]
    exact Or.inl ⟨rfl, rfl, h2⟩
  · rw [h1, xb1_s, nodeIn_ok he h2, xb1_s]
    exact Or.inr ⟨q, rfl, rfl, h2, h3⟩
theorem nameOf_ok {M : Mm} {i q : Nat} (he : 0 ≤ M 2 i 8 ∧ M 2 i 8 ≤ 12) (h : (q : Int) < M 2 i 8) : F_X1_nameOf M i (q : Int) = some (M 3 i q) := by
  unfold F_X1_nameOf
  rw [if_neg (by omega), if_neg (by omega), if_neg (by omega), xk_t (by omega), Int.toNat_natCast]
theorem blockAt_ok {M : Mm} {i p : Nat} (h : p < 20) : F_X1_blockAt M i (p : Int) = some (M 5 i p) := by
  unfold F_X1_blockAt
  rw [if_neg (by omega), if_neg (by omega), xk_t (by omega), Int.toNat_natCast]
theorem isBlock_ok {M : Mm} {b : Int} (h : 0 ≤ b ∧ b < 128) : F_X2_isBlock M b = some (if b = 0 then 0 else 1) := by
  unfold F_X2_isBlock
  by_cases q : b = 0
  · rw [if_pos (by omega), if_pos q]
  · rw [if_neg (by omega), if_neg (by omega), if_neg q]
theorem isShared_ok {M : Mm} {o : Nat} {b : Nat} (h : b < 128) : F_X2_isShared M o (b : Int) = some (if b = 0 then 0 else if M 8 o b ≤ 1 then 0 else 1) := by
  unfold F_X2_isShared
  rw [isBlock_ok (by omega), xb1_s]
  by_cases q : b = 0
  · rw [if_pos (show (if (b : Int) = 0 then (0 : Int) else 1) = 0 by rw [if_pos (by omega)]), if_pos q]
  · rw [if_neg (show ¬ (if (b : Int) = 0 then (0 : Int) else 1) = 0 by rw [if_neg (by omega)]; decide), if_neg q, xk_t (by omega), Int.toNat_natCast]
    split <;> rfl
theorem limitOf_ok {M : Mm} {o u : Nat} (h : u < 4) : F_X2_limitOf M o (u : Int) = some (M 6 o u) := by
  unfold F_X2_limitOf
  rw [if_neg (by omega), if_neg (by omega), xk_t (by omega), Int.toNat_natCast]
theorem elsewhere {M : Mm} {i : Nat} {b v : Int} : ∀ (j n k : Nat), k + j = 20 → ∃ r, F_X1_hasElsewhere_2 M (n + j + 1) i b v (k : Int) = some r ∧ (r = 0 ∨ r = 1)
  | 0, n, k, h => by
    unfold F_X1_hasElsewhere_2
    rw [if_pos (by omega)]
    exact ⟨0, rfl, Or.inl rfl⟩
  | j + 1, n, k, h => by
    obtain ⟨r, h1, h2⟩ := elsewhere (M := M) (i := i) (b := b) (v := v) j n (k + 1) (by omega)
    show ∃ r, F_X1_hasElsewhere_2 M ((n + j + 1) + 1) i b v (k : Int) = some r ∧ _
    unfold F_X1_hasElsewhere_2
    rw [if_neg (by omega), xk_t (rgk (by omega)), suc, h1]
    split
    · exact ⟨r, rfl, h2⟩
    · split
      · exact ⟨r, rfl, h2⟩
      · rw [xk_t (by omega)]
        split
        · exact ⟨1, rfl, Or.inr rfl⟩
        · exact ⟨r, rfl, h2⟩
theorem elsewhere_ok {M : Mm} {i : Nat} {b v : Int} : ∃ r, F_X1_hasElsewhere M i b v = some r ∧ (r = 0 ∨ r = 1) := elsewhere 20 (FU - 21) 0 (by decide)
