/-! FRAMES AND COPIES -/
/-- only the tree o was written -/
def Fr (M M' : Mm) (o : Nat) : Prop := ∀ K i k : Nat, ¬ ((2 ≤ K ∧ K ≤ 5 ∧ 33 * o ≤ i ∧ i < 33 * o + 33) ∨ ((K = 1 ∨ (6 ≤ K ∧ K ≤ 10)) ∧ i = o)) → M' K i k = M K i k
theorem Fr.refl {M : Mm} {o : Nat} : Fr M M o := fun _ _ _ _ => rfl
theorem Fr.trans {M M1 M2 : Mm} {o : Nat} (h : Fr M M1 o) (h2 : Fr M1 M2 o) : Fr M M2 o := fun K i k hk => (h2 K i k hk).trans (h K i k hk)
theorem mup_at {M : Mm} {K i k : Nat} {v : Int} : mup M K i k v K i k = v := if_pos ⟨rfl, rfl, rfl⟩
theorem mup_off {M : Mm} {K i k K' i' k' : Nat} {v : Int} (h : ¬ (K' = K ∧ i' = i ∧ k' = k)) : mup M K i k v K' i' k' = M K' i' k' := if_neg h
theorem mcp_off {M : Mm} {K i sp K2 i2 dp n K' i' k' : Nat} (h : ¬ (K' = K2 ∧ i' = i2 ∧ dp ≤ k' ∧ k' < dp + n)) : mcp M K i sp K2 i2 dp n K' i' k' = M K' i' k' := if_neg h
theorem mcp_at {M : Mm} {K i sp K2 i2 dp n k' : Nat} (h : dp ≤ k' ∧ k' < dp + n) : mcp M K i sp K2 i2 dp n K2 i2 k' = M K i (sp + (k' - dp)) := if_pos ⟨rfl, rfl, h.1, h.2⟩
theorem Fr.mup {M : Mm} {o K i k : Nat} {v : Int} (h : (2 ≤ K ∧ K ≤ 5 ∧ 33 * o ≤ i ∧ i < 33 * o + 33) ∨ ((K = 1 ∨ (6 ≤ K ∧ K ≤ 10)) ∧ i = o)) : Fr M (mup M K i k v) o := fun K' i' k' hk => mup_off (fun z => hk (by rw [z.1, z.2.1]; exact h))
theorem Fr.mcp {M : Mm} {o K i sp K2 i2 dp n : Nat} (h : (2 ≤ K2 ∧ K2 ≤ 5 ∧ 33 * o ≤ i2 ∧ i2 < 33 * o + 33) ∨ ((K2 = 1 ∨ (6 ≤ K2 ∧ K2 ≤ 10)) ∧ i2 = o)) : Fr M (mcp M K i sp K2 i2 dp n) o := fun K' i' k' hk => mcp_off (fun z => hk (by rw [z.1, z.2.1]; exact h))
theorem Fr.ag {M M' : Mm} {d o : Nat} (h : Fr M M' d) (ho : o ≠ d) : Ag M M' o o := by
  refine ⟨fun n hn => ⟨fun k _ _ => h 2 _ _ (by omega), fun k _ => h 3 _ _ (by omega), fun k _ => h 4 _ _ (by omega)⟩, ⟨fun n hn => ⟨h 2 _ _ (by omega), h 2 _ _ (by omega), fun k _ => h 5 _ _ (by omega)⟩, fun k _ => h 8 _ _ (by omega)⟩, fun k _ => h 6 _ _ (by omega)⟩
/-- one node copied -/
def Nc (M M' : Mm) (i a : Nat) : Prop := (∀ k, k < 9 → M' 2 i k = M 2 a k) ∧ (∀ k, k < 12 → M' 3 i k = M 3 a k) ∧ (∀ k, k < 12 → M' 4 i k = M 4 a k) ∧ ∀ k, k < 20 → M' 5 i k = M 5 a k
theorem ncopy {M : Mm} {i a : Nat} (h : a ≠ i) : ∃ M', F_X1_copyFrom M i a = some M' ∧ Nc M M' i a ∧ ∀ K j k : Nat, ¬ (2 ≤ K ∧ K ≤ 5 ∧ j = i) → M' K j k = M K j k := by
  have r2 : ∀ (M : Mm) (k : Nat) (v : Int) (k' : Nat), mup M 2 i k v 2 a k' = M 2 a k' := fun M k v k' => mup_off (fun z => h z.2.1)
  unfold F_X1_copyFrom F_X1_aim
  simp only [xl_e, xb1_s, r2]
  refine ⟨_, rfl, ⟨fun k hk => ?_, fun k hk => ?_, fun k hk => ?_, fun k hk => ?_⟩, fun K j k hK => ?_⟩
  · rw [mcp_off (by omega), mcp_off (by omega), mcp_off (by omega)]
    rcases (show k = 0 ∨ k = 1 ∨ k = 2 ∨ k = 3 ∨ k = 4 ∨ k = 5 ∨ k = 6 ∨ k = 7 ∨ k = 8 by omega) with rfl | rfl | rfl | rfl | rfl | rfl | rfl | rfl | rfl <;> simp [mup]
  · rw [mcp_off (by omega), mcp_off (by omega), mcp_at (by show 0 ≤ k ∧ k < 0 + 12; omega)]
    rw [mup_off (by omega), mup_off (by omega), mup_off (by omega), mup_off (by omega), mup_off (by omega), mup_off (by omega), mup_off (by omega), mup_off (by omega), mup_off (by omega)]
    rw [show (0 : Int).toNat + (k - (0 : Int).toNat) = k by show 0 + (k - 0) = k; omega]
  · rw [mcp_off (by omega), mcp_at (by show 0 ≤ k ∧ k < 0 + 12; omega), mcp_off (by omega)]
    rw [mup_off (by omega), mup_off (by omega), mup_off (by omega), mup_off (by omega), mup_off (by omega), mup_off (by omega), mup_off (by omega), mup_off (by omega), mup_off (by omega)]
    rw [show (0 : Int).toNat + (k - (0 : Int).toNat) = k by show 0 + (k - 0) = k; omega]
  · rw [mcp_at (by show 0 ≤ k ∧ k < 0 + 20; omega), mcp_off (by omega), mcp_off (by omega)]
    rw [mup_off (by omega), mup_off (by omega), mup_off (by omega), mup_off (by omega), mup_off (by omega), mup_off (by omega), mup_off (by omega), mup_off (by omega), mup_off (by omega)]
    rw [show (0 : Int).toNat + (k - (0 : Int).toNat) = k by show 0 + (k - 0) = k; omega]
  · rw [mcp_off (by omega), mcp_off (by omega), mcp_off (by omega), mup_off (by omega), mup_off (by omega), mup_off (by omega), mup_off (by omega), mup_off (by omega), mup_off (by omega), mup_off (by omega), mup_off (by omega), mup_off (by omega)]
/-- from the node k on, and what is beside the nodes -/
def Cp (M M' : Mm) (o a k : Nat) : Prop := (∀ m, k ≤ m → m < 32 → Nc M M' (33 * o + m) (33 * a + m)) ∧ (∀ q, q < 4 → M' 6 o q = M 6 a q) ∧ (∀ q, q < 128 → M' 8 o q = M 8 a q) ∧ M' 1 o 5 = M 1 a 5 ∧ (∀ m q K : Nat, 2 ≤ K → K ≤ 5 → m < k → M' K (33 * o + m) q = M K (33 * o + m) q) ∧ Fr M M' o
theorem copy2 {o a : Nat} (h : a ≠ o) : ∀ (j n k : Nat) (M : Mm), k + j = 32 → ∃ M', F_X2_copyFrom_2 (n + j + 1) M o a (k : Int) = some M' ∧ Cp M M' o a k
  | 0, n, k, M, hk => by
    unfold F_X2_copyFrom_2
    rw [if_pos (by omega)]
    simp only [xl_e]
    refine ⟨_, rfl, fun m h1 h2 => by omega, fun q hq => ?_, fun q hq => ?_, ?_, fun m q K h1 h2 h3 => ?_, ?_⟩
    · rw [mup_off (by omega), mcp_off (by omega), mcp_off (by omega), mcp_at (by show 0 ≤ q ∧ q < 0 + 4; omega), show (0 : Int).toNat + (q - (0 : Int).toNat) = q by show 0 + (q - 0) = q; omega]
    · rw [mup_off (by omega), mcp_at (by show 0 ≤ q ∧ q < 0 + 128; omega), mcp_off (by omega), mcp_off (by omega), show (0 : Int).toNat + (q - (0 : Int).toNat) = q by show 0 + (q - 0) = q; omega]
    · rw [mup_at, mcp_off (by omega), mcp_off (by omega), mcp_off (by omega)]
    · rw [mup_off (by omega), mcp_off (by omega), mcp_off (by omega), mcp_off (by omega)]
    · exact ((Fr.mcp (by omega)).trans (Fr.mcp (by omega))).trans ((Fr.mcp (by omega)).trans (Fr.mup (by omega)))
  | j + 1, n, k, M, hk => by
    obtain ⟨M1, e1, n1, f1⟩ := ncopy (M := M) (i := 33 * o + k) (a := 33 * a + k) (by omega)
    obtain ⟨M', e2, c1, c2, c3, c4, c5, c6⟩ := copy2 h j n (k + 1) M1 (by omega)
    show ∃ M', F_X2_copyFrom_2 ((n + j + 1) + 1) M o a (k : Int) = some M' ∧ _
    unfold F_X2_copyFrom_2
    rw [if_neg (by omega), xk_t (by omega), at_ok (by omega), xb1_s, Int.toNat_natCast, e1, xb1_s, xk_t (rgk (by omega)), suc]
    have fr1 : Fr M M1 o := fun K i q hq => f1 K i q (by omega)
    refine ⟨M', e2, fun m h1 h2 => ?_, fun q hq => ?_, fun q hq => ?_, ?_, fun m q K h1 h2 h3 => ?_, fr1.trans c6⟩
    · by_cases z : m = k
      · subst z
        refine ⟨fun q hq => ?_, fun q hq => ?_, fun q hq => ?_, fun q hq => ?_⟩
        · rw [c5 m q 2 (by decide) (by decide) (by omega)]
          exact n1.1 q hq
        · rw [c5 m q 3 (by decide) (by decide) (by omega)]
          exact n1.2.1 q hq
        · rw [c5 m q 4 (by decide) (by decide) (by omega)]
          exact n1.2.2.1 q hq
        · rw [c5 m q 5 (by decide) (by decide) (by omega)]
          exact n1.2.2.2 q hq
      · obtain ⟨d1, d2, d3, d4⟩ := c1 m (by omega) h2
        refine ⟨fun q hq => ?_, fun q hq => ?_, fun q hq => ?_, fun q hq => ?_⟩
        · rw [d1 q hq, f1 _ _ _ (by omega)]
        · rw [d2 q hq, f1 _ _ _ (by omega)]
        · rw [d3 q hq, f1 _ _ _ (by omega)]
        · rw [d4 q hq, f1 _ _ _ (by omega)]
    · rw [c2 q hq, f1 _ _ _ (by omega)]
    · rw [c3 q hq, f1 _ _ _ (by omega)]
    · rw [c4, f1 _ _ _ (by omega)]
    · rw [c5 m q K h1 h2 (by omega), f1 _ _ _ (by omega)]
theorem copy_ok {M : Mm} {o a : Nat} (h : a ≠ o) : ∃ M', F_X2_copyFrom M o a = some M' ∧ Ag M M' a o ∧ M' 1 o 5 = M 1 a 5 ∧ Fr M M' o := by
  obtain ⟨M', e, c1, c2, c3, c4, c5, c6⟩ := copy2 (o := o) (a := a) h 32 (FU - 33) 0 M (by decide)
  refine ⟨M', e, ⟨fun n hn => ?_, ⟨fun n hn => ?_, c3⟩, c2⟩, c4, c6⟩
  · obtain ⟨d1, d2, d3, d4⟩ := c1 n (by omega) hn
    exact ⟨fun k hk _ => d1 k hk, d2, d3⟩
  · obtain ⟨d1, d2, d3, d4⟩ := c1 n (by omega) hn
    exact ⟨d1 3 (by decide), d1 0 (by decide), d4⟩
/-- which tree lives, which is the draft -/
def IDX (M : Mm) (l d : Nat) : Prop := M 0 0 0 = l ∧ M 0 0 1 = d ∧ (l = 0 ∧ d = 1 ∨ l = 1 ∧ d = 0)
theorem IDX.l01 {M : Mm} {l d : Nat} (h : IDX M l d) : M 0 0 0 = 0 ∨ M 0 0 0 = 1 := by have := h.1; have := h.2.2; omega
theorem IDX.d01 {M : Mm} {l d : Nat} (h : IDX M l d) : M 0 0 1 = 0 ∨ M 0 0 1 = 1 := by have := h.2.1; have := h.2.2; omega
theorem IDX.l {M : Mm} {l d : Nat} (h : IDX M l d) : (M 0 0 0).toNat = l := by have := h.1; omega
theorem IDX.d {M : Mm} {l d : Nat} (h : IDX M l d) : (M 0 0 1).toNat = d := by have := h.2.1; omega
theorem IDX.fr {M M' : Mm} {l d o : Nat} (h : IDX M l d) (hf : Fr M M' o) : IDX M' l d := ⟨(hf 0 0 0 (by omega)).trans h.1, (hf 0 0 1 (by omega)).trans h.2.1, h.2.2⟩
theorem draft_ok {M : Mm} {l d : Nat} (h : IDX M l d) : ∃ M', F_X3_startDraft M = some M' ∧ Ag M M' l d ∧ M' 1 d 5 = M 1 l 5 ∧ Fr M M' d := by
  obtain ⟨M', e, h1, h2, h3⟩ := copy_ok (M := M) (o := d) (a := l) (by have := h.2.2; omega)
  unfold F_X3_startDraft
  rw [xk_t h.d01, xk_t h.l01, h.l, h.d, e, xb1_s]
  exact ⟨M', rfl, h1, h2, h3⟩
