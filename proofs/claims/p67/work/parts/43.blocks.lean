/-! BLOCKS AND THEIR HOLDERS -/
def TB (M : Mm) (o : Nat) : Prop := (∀ n p : Nat, n < 32 → p < 20 → 0 ≤ M 5 (33 * o + n) p ∧ M 5 (33 * o + n) p < 128) ∧ Hld M o
theorem G2.tb {M : Mm} {o : Nat} (g : G2 M o) : TB M o := ⟨fun n p hn hp => ((g.1 n hn).2.2 p hp).1, g.2⟩
theorem plc_bd {M : Mm} {i : Nat} {b : Int} : 0 ≤ plc M i b ∧ plc M i b ≤ 20 := by
  have h1 := sm_nn (f := fun p => if M 5 i p = b then 1 else 0) (k := 0) (j := 20) (fun p _ _ => by
    show (0 : Int) ≤ if M 5 i p = b then 1 else 0
    split <;> decide)
  have h2 := sm_bd (f := fun p => if M 5 i p = b then 1 else 0) (c := 1) (k := 0) (j := 20) (fun p _ _ => by
    show (if M 5 i p = b then (1 : Int) else 0) ≤ 1
    split <;> decide)
  unfold plc
  omega
theorem cntB_bd {M : Mm} {o : Nat} {b : Int} : 0 ≤ cntB M o b ∧ cntB M o b ≤ 640 := by
  have h1 := sm_nn (f := fun n => plc M (33 * o + n) b) (k := 0) (j := 32) (fun p _ _ => plc_bd.1)
  have h2 := sm_bd (f := fun n => plc M (33 * o + n) b) (c := 20) (k := 0) (j := 32) (fun p _ _ => plc_bd.2)
  unfold cntB
  omega
theorem Hld.bd {M : Mm} {o : Nat} (h : Hld M o) {b : Nat} (hb : b < 128) : 0 ≤ M 8 o b ∧ M 8 o b ≤ 640 := by
  by_cases q : b = 0
  · rw [q, h.1]
    decide
  · rw [h.2 b (by omega) hb]
    exact cntB_bd
/-- one place of a node holds b now -/
def PutE (M M' : Mm) (o i p : Nat) (b : Int) : Prop := M' 5 i p = b ∧ (∀ x : Nat, M' 8 o x = M 8 o x - (if M 5 i p = x ∧ x ≠ 0 then 1 else 0) + (if b = x ∧ x ≠ 0 then 1 else 0)) ∧ ∀ K j k : Nat, ¬ (K = 5 ∧ j = i ∧ k = p) → ¬ (K = 8 ∧ j = o) → M' K j k = M K j k
theorem put46 {M : Mm} {o i p : Nat} {b : Int} (hp : p < 20) (hb : 0 ≤ b ∧ b < 128) (h8 : -1000 ≤ M 8 o b.toNat ∧ M 8 o b.toNat ≤ 1000) : ∃ M', F_X2_put_46 M o i (p : Int) b = some M' ∧ M' 5 i p = b ∧ (∀ x : Nat, M' 8 o x = M 8 o x + (if b = x ∧ x ≠ 0 then 1 else 0)) ∧ ∀ K j k : Nat, ¬ (K = 5 ∧ j = i ∧ k = p) → ¬ (K = 8 ∧ j = o) → M' K j k = M K j k := by
  unfold F_X2_put_46
  rw [isBlock_ok hb, xb1_s]
  by_cases q : b = 0
  · rw [if_pos (show (if b = 0 then (0 : Int) else 1) = 0 by rw [if_pos q]), xk_t (by omega), xl_e, Int.toNat_natCast]
    refine ⟨_, rfl, mup_at, fun x => ?_, fun K j k h1 h2 => mup_off h1⟩
    rw [mup_off (by omega), if_neg (by omega), Int.add_zero]
  · rw [if_neg (show ¬ (if b = 0 then (0 : Int) else 1) = 0 by rw [if_neg q]; decide), xk_t (by omega), xk_t (rgk (by omega)), xk_t (by omega), xl_e, xk_t (by omega), xl_e, Int.toNat_natCast]
    refine ⟨_, rfl, mup_at, fun x => ?_, fun K j k h1 h2 => ?_⟩
    · rw [mup_off (by omega)]
      by_cases z : x = b.toNat
      · subst z
        rw [mup_at, if_pos (by omega)]
      · rw [mup_off (by omega), if_neg (by omega), Int.add_zero]
    · rw [mup_off h1, mup_off (by omega)]
theorem put_ok {M : Mm} {o i p : Nat} {b : Int} (hp : p < 20) (ho : 0 ≤ M 5 i p ∧ M 5 i p < 128) (hb : 0 ≤ b ∧ b < 128) (h8 : ∀ x : Nat, x < 128 → 0 ≤ M 8 o x ∧ M 8 o x ≤ 900) : ∃ M', F_X2_put M o i (p : Int) b = some M' ∧ PutE M M' o i p b := by
  unfold F_X2_put
  rw [blockAt_ok hp, xb1_s]
  by_cases q : M 5 i p = b
  · rw [if_pos q]
    refine ⟨M, rfl, q, fun x => ?_, fun _ _ _ _ _ => rfl⟩
    rw [q]
    omega
  · rw [if_neg q, if_neg (by omega), if_pos (by omega), isBlock_ok ho, xb1_s]
    have hb8 := h8 b.toNat (by omega)
    by_cases z : M 5 i p = 0
    · rw [if_pos (show (if M 5 i p = 0 then (0 : Int) else 1) = 0 by rw [if_pos z])]
      obtain ⟨M', e, a1, a2, a3⟩ := put46 (M := M) (o := o) (i := i) hp hb (by omega)
      refine ⟨M', e, a1, fun x => ?_, a3⟩
      rw [a2 x, if_neg (by omega : ¬ (M 5 i p = (x : Int) ∧ x ≠ 0)), Int.sub_zero]
    · have ho8 := h8 (M 5 i p).toNat (by omega)
      rw [if_neg (show ¬ (if M 5 i p = 0 then (0 : Int) else 1) = 0 by rw [if_neg z]; decide), xk_t (by omega), xk_t (rgk (by omega)), xk_t (by omega), xl_e]
      have e8 : ∀ x : Nat, mup M 8 o (M 5 i p).toNat (M 8 o (M 5 i p).toNat - 1) 8 o x = M 8 o x - (if M 5 i p = x ∧ x ≠ 0 then 1 else 0) := by
        intro x
        by_cases w : x = (M 5 i p).toNat
        · subst w
          rw [mup_at, if_pos (by omega)]
        · rw [mup_off (by omega), if_neg (by omega), Int.sub_zero]
      obtain ⟨M', e, a1, a2, a3⟩ := put46 (M := mup M 8 o (M 5 i p).toNat (M 8 o (M 5 i p).toNat - 1)) (o := o) (i := i) hp hb (by rw [e8]; split <;> omega)
      refine ⟨M', e, a1, fun x => ?_, fun K j k h1 h2 => ?_⟩
      · rw [a2 x, e8]
      · rw [a3 K j k h1 h2, mup_off (by omega)]
/-- the same inside a tree: the holders stay right -/
theorem put_tb {M : Mm} {o n p : Nat} {b : Int} (h : TB M o) (hn : n < 32) (hp : p < 20) (hb : 0 ≤ b ∧ b < 128) : ∃ M', F_X2_put M o (33 * o + n) (p : Int) b = some M' ∧ PutE M M' o (33 * o + n) p b ∧ TB M' o := by
  obtain ⟨M', e, a1, a2, a3⟩ := put_ok (M := M) (o := o) (i := 33 * o + n) hp (h.1 n p hn hp) hb (fun x hx => by have := h.2.bd hx; omega)
  have c5 : ∀ m k : Nat, ¬ (m = n ∧ k = p) → M' 5 (33 * o + m) k = M 5 (33 * o + m) k := fun m k hmk => a3 5 _ _ (by omega) (by omega)
  have hpl : ∀ x : Int, plc M' (33 * o + n) x = plc M (33 * o + n) x - (if M 5 (33 * o + n) p = x then 1 else 0) + (if b = x then 1 else 0) := by
    intro x
    have e1 := sm_upd (f := fun k => if M 5 (33 * o + n) k = x then 1 else 0) (g := fun k => if M' 5 (33 * o + n) k = x then 1 else 0) (a := p) (k := 0) (j := 20) (by omega) (by omega) (fun k _ _ hk => by
      show (if M' 5 (33 * o + n) k = x then (1 : Int) else 0) = if M 5 (33 * o + n) k = x then 1 else 0
      rw [c5 n k (by omega)])
    rw [a1] at e1
    exact e1
  have hcn : ∀ x : Int, cntB M' o x = cntB M o x - (if M 5 (33 * o + n) p = x then 1 else 0) + (if b = x then 1 else 0) := by
    intro x
    have e1 := sm_upd (f := fun m => plc M (33 * o + m) x) (g := fun m => plc M' (33 * o + m) x) (a := n) (k := 0) (j := 32) (by omega) (by omega) (fun m _ _ hm => sm_congr fun k _ _ => by rw [c5 m k (by omega)])
    rw [hpl x] at e1
    have e2 : cntB M' o x = sm (fun m => plc M' (33 * o + m) x) 0 32 := rfl
    have e3 : cntB M o x = sm (fun m => plc M (33 * o + m) x) 0 32 := rfl
    omega
  refine ⟨M', e, ⟨a1, a2, a3⟩, fun m k hm hk => ?_, ?_, fun x h1 h2 => ?_⟩
  · by_cases z : m = n ∧ k = p
    · rw [z.1, z.2, a1]
      exact hb
    · rw [c5 m k z]
      exact h.1 m k hm hk
  · rw [a2 0, h.2.1]
    simp
  · rw [a2 x, hcn x, h.2.2 x h1 h2]
    have e4 : (if M 5 (33 * o + n) p = (x : Int) ∧ x ≠ 0 then (1 : Int) else 0) = if M 5 (33 * o + n) p = (x : Int) then 1 else 0 := by
      by_cases z : M 5 (33 * o + n) p = (x : Int)
      · rw [if_pos ⟨z, by omega⟩, if_pos z]
      · rw [if_neg (fun y => z y.1), if_neg z]
    have e5 : (if b = (x : Int) ∧ x ≠ 0 then (1 : Int) else 0) = if b = (x : Int) then 1 else 0 := by
      by_cases z : b = (x : Int)
      · rw [if_pos ⟨z, by omega⟩, if_pos z]
      · rw [if_neg (fun y => z y.1), if_neg z]
    rw [e4, e5]
/-- what a road over the blocks of one node may write -/
def Bf (M M' : Mm) (o i : Nat) : Prop := ∀ K j k : Nat, ¬ (K = 5 ∧ j = i) → ¬ (K = 7 ∧ j = o) → ¬ (K = 8 ∧ j = o) → M' K j k = M K j k
theorem Bf.refl {M : Mm} {o i : Nat} : Bf M M o i := fun _ _ _ _ _ _ => rfl
theorem Bf.trans {M M1 M2 : Mm} {o i : Nat} (h : Bf M M1 o i) (h2 : Bf M1 M2 o i) : Bf M M2 o i := fun K j k a b c => (h2 K j k a b c).trans (h K j k a b c)
theorem PutE.bf {M M' : Mm} {o i p : Nat} {b : Int} (h : PutE M M' o i p b) : Bf M M' o i := fun K j k a _ c => h.2.2 K j k (fun z => a ⟨z.1, z.2.1⟩) c
theorem become39 {M : Mm} {i : Nat} (h : ∀ p, p < 20 → M 5 i p = 0) : ∀ (j n k : Nat), k + j = 20 → F_X1_become_39 (n + j + 1) M i (k : Int) = some M
  | 0, n, k, hk => by
    unfold F_X1_become_39
    rw [if_pos (by omega)]
  | j + 1, n, k, hk => by
    show F_X1_become_39 ((n + j + 1) + 1) M i (k : Int) = _
    unfold F_X1_become_39
    have e : mup M 5 i (k : Int).toNat 0 = M := by
      funext K1 i1 k1
      by_cases q : K1 = 5 ∧ i1 = i ∧ k1 = (k : Int).toNat
      · rw [q.1, q.2.1, q.2.2, Int.toNat_natCast, mup_at]
        exact (h k (by omega)).symm
      · rw [mup_off q]
    rw [if_neg (by omega), xk_t (by omega), xl_e, e, xk_t (rgk (by omega)), suc, become39 h j n (k + 1) (by omega)]
theorem become_e {M : Mm} {i : Nat} {s u : Int} : F_X1_become M i s u = F_X1_become_39 FU (mup (mup (mup (mup (mup (mup (mup (mup (mup M 2 i 0 s) 2 i 1 u) 2 i 2 0) 2 i 3 0) 2 i 4 0) 2 i 5 0) 2 i 6 0) 2 i 7 0) 2 i 8 0) i 0 := by
  unfold F_X1_become F_X1_aim
  rw [xl_e, xl_e, xl_e, xl_e, xl_e, xl_e, xl_e, xl_e, xb1_s, xl_e]
theorem become_ok {M : Mm} {i : Nat} {s u : Int} (h : ∀ p, p < 20 → M 5 i p = 0) : ∃ M', F_X1_become M i s u = some M' ∧ (M' 2 i 0 = s ∧ M' 2 i 1 = u ∧ ∀ k, 2 ≤ k → k < 9 → M' 2 i k = 0) ∧ ∀ K j k : Nat, ¬ (K = 2 ∧ j = i) → M' K j k = M K j k := by
  have f : ∀ K j k : Nat, ¬ (K = 2 ∧ j = i) → (mup (mup (mup (mup (mup (mup (mup (mup (mup M 2 i 0 s) 2 i 1 u) 2 i 2 0) 2 i 3 0) 2 i 4 0) 2 i 5 0) 2 i 6 0) 2 i 7 0) 2 i 8 0) K j k = M K j k := by
    intro K j k hk
    rw [mup_off (by omega), mup_off (by omega), mup_off (by omega), mup_off (by omega), mup_off (by omega), mup_off (by omega), mup_off (by omega), mup_off (by omega), mup_off (by omega)]
  have g0 : (mup (mup (mup (mup (mup (mup (mup (mup (mup M 2 i 0 s) 2 i 1 u) 2 i 2 0) 2 i 3 0) 2 i 4 0) 2 i 5 0) 2 i 6 0) 2 i 7 0) 2 i 8 0) 2 i 0 = s := by simp [mup]
  have g1 : (mup (mup (mup (mup (mup (mup (mup (mup (mup M 2 i 0 s) 2 i 1 u) 2 i 2 0) 2 i 3 0) 2 i 4 0) 2 i 5 0) 2 i 6 0) 2 i 7 0) 2 i 8 0) 2 i 1 = u := by simp [mup]
  have g2 : ∀ k, 2 ≤ k → k < 9 → (mup (mup (mup (mup (mup (mup (mup (mup (mup M 2 i 0 s) 2 i 1 u) 2 i 2 0) 2 i 3 0) 2 i 4 0) 2 i 5 0) 2 i 6 0) 2 i 7 0) 2 i 8 0) 2 i k = 0 := by
    intro k h1 h2
    rcases (show k = 2 ∨ k = 3 ∨ k = 4 ∨ k = 5 ∨ k = 6 ∨ k = 7 ∨ k = 8 by omega) with rfl | rfl | rfl | rfl | rfl | rfl | rfl <;> simp [mup]
  rw [become_e]
  generalize (mup (mup (mup (mup (mup (mup (mup (mup (mup M 2 i 0 s) 2 i 1 u) 2 i 2 0) 2 i 3 0) 2 i 4 0) 2 i 5 0) 2 i 6 0) 2 i 7 0) 2 i 8 0) = M1 at f g0 g1 g2
  refine ⟨M1, ?_, ⟨g0, g1, g2⟩, f⟩
  show F_X1_become_39 ((FU - 21) + 20 + 1) M1 i ((0 : Nat) : Int) = some M1
  exact become39 (fun p hp => by
    rw [f 5 i p (by omega)]
    exact h p hp) 20 (FU - 21) 0 (by decide)
/-- a node dropped -/
def DropE (M M' : Mm) (o n : Nat) : Prop := (∀ k, k < 9 → M' 2 (33 * o + n) k = 0) ∧ (∀ p, p < 20 → M' 5 (33 * o + n) p = 0) ∧ (∀ x : Nat, x < 128 → M' 8 o x ≤ M 8 o x) ∧ ∀ K j k : Nat, ¬ (K = 2 ∧ j = 33 * o + n) → ¬ (K = 5 ∧ j = 33 * o + n) → ¬ (K = 8 ∧ j = o) → M' K j k = M K j k
theorem drop8 {o m : Nat} (hm : m < 32) : ∀ (j n k : Nat) (M : Mm), k + j = 20 → TB M o → (∀ p, p < k → M 5 (33 * o + m) p = 0) → ∃ M', F_X2_drop_8 (n + j + 1) M o (33 * o + m) (k : Int) = some M' ∧ TB M' o ∧ DropE M M' o m
  | 0, n, k, M, hk, ht, hz => by
    unfold F_X2_drop_8
    rw [if_pos (by omega)]
    obtain ⟨M', e, ⟨a1, a2, a3⟩, a4⟩ := become_ok (M := M) (i := 33 * o + m) (s := 0) (u := 0) (fun p hp => hz p (by omega))
    rw [e, xb1_s]
    have ag : Ag2 M M' o o ∨ True := Or.inr trivial
    refine ⟨M', rfl, ⟨fun n p hn hp => ?_, ?_, fun b h1 h2 => ?_⟩, fun k hk => ?_, fun p hp => ?_, fun x hx => ?_, fun K j k h1 h2 h3 => a4 K j k h1⟩
    · rw [a4 5 _ _ (by omega)]
      exact ht.1 n p hn hp
    · rw [a4 8 _ _ (by omega)]
      exact ht.2.1
    · rw [a4 8 _ _ (by omega), ht.2.2 b h1 h2]
      exact (sm_congr fun n _ _ => sm_congr fun p _ _ => by rw [a4 5 _ _ (by omega)]).symm
    · rcases (show k = 0 ∨ k = 1 ∨ 2 ≤ k by omega) with rfl | rfl | q
      · exact a1
      · exact a2
      · exact a3 k q hk
    · rw [a4 5 _ _ (by omega)]
      exact hz p (by omega)
    · rw [a4 8 _ _ (by omega)]
      exact Int.le_refl _
  | j + 1, n, k, M, hk, ht, hz => by
    obtain ⟨M1, e, pe, t1⟩ := put_tb (M := M) (o := o) (n := m) (p := k) (b := 0) ht hm (by omega) (by decide)
    show ∃ M', F_X2_drop_8 ((n + j + 1) + 1) M o (33 * o + m) (k : Int) = some M' ∧ _
    unfold F_X2_drop_8
    rw [if_neg (by omega), e, xb1_s, xk_t (rgk (by omega)), suc]
    obtain ⟨M', e2, t2, d1, d2, d3, d4⟩ := drop8 hm j n (k + 1) M1 (by omega) t1 (fun p hp => by
      by_cases z : p = k
      · rw [z]
        exact pe.1
      · rw [pe.2.2 5 _ _ (by omega) (by omega)]
        exact hz p (by omega))
    refine ⟨M', e2, t2, d1, d2, fun x hx => Int.le_trans (d3 x hx) ?_, fun K j k h1 h2 h3 => (d4 K j k h1 h2 h3).trans (pe.2.2 K j k (by omega) h3)⟩
    rw [pe.2.1 x, if_neg (by omega : ¬ ((0 : Int) = (x : Int) ∧ x ≠ 0))]
    split <;> omega
theorem drop_ok {M : Mm} {o m : Nat} (ht : TB M o) (hm : m < 32) : ∃ M', F_X2_drop M o (m : Int) = some M' ∧ TB M' o ∧ DropE M M' o m := by
  unfold F_X2_drop
  rw [at_ok hm, xb1_s]
  exact drop8 hm 20 (FU - 21) 0 M (by decide) ht (fun p hp => by omega)
theorem freeB2 {M : Mm} {o : Nat} : ∀ (j n k : Nat), k + j = 128 → 1 ≤ k → ∃ b : Nat, F_X2_freeBlock_2 M (n + j + 1) o (k : Int) = some (b : Int) ∧ b < 128
  | 0, n, k, hk, h1 => by
    unfold F_X2_freeBlock_2
    rw [if_pos (by omega)]
    exact ⟨0, rfl, by decide⟩
  | j + 1, n, k, hk, h1 => by
    obtain ⟨b, e, hb⟩ := freeB2 (M := M) (o := o) j n (k + 1) (by omega) (by omega)
    show ∃ b : Nat, F_X2_freeBlock_2 M ((n + j + 1) + 1) o (k : Int) = some (b : Int) ∧ b < 128
    unfold F_X2_freeBlock_2
    rw [if_neg (by omega), xk_t (by omega)]
    split
    · exact ⟨k, rfl, by omega⟩
    · rw [xk_t (rgk (by omega)), suc]
      exact ⟨b, e, hb⟩
theorem freeB_ok {M : Mm} {o : Nat} : ∃ b : Nat, F_X2_freeBlock M o = some (b : Int) ∧ b < 128 := freeB2 127 (FU - 128) 1 (by decide) (by decide)
/-- a road over the blocks of the node n: the holders stay right, and at most the place p is another -/
def Br (M M' : Mm) (o n p : Nat) : Prop := TB M' o ∧ Bf M M' o (33 * o + n) ∧ ∀ k : Nat, k ≠ p → M' 5 (33 * o + n) k = M 5 (33 * o + n) k
theorem own23 {M : Mm} {o n p : Nat} {v : Int} (ht : TB M o) (hn : n < 32) (hp : p < 20) (hv : 0 ≤ v ∧ v < 128) : ∃ (b : Nat) (M' : Mm), F_X2_ownBlock_23 M o (33 * o + n) (p : Int) v = some ((b : Int), M') ∧ b < 128 ∧ Br M M' o n p := by
  obtain ⟨b, e, hb⟩ := freeB_ok (M := M) (o := o)
  unfold F_X2_ownBlock_23
  rw [e, xb1_s, isBlock_ok (by omega), xb1_s]
  by_cases q : b = 0
  · rw [if_pos (show (if (b : Int) = 0 then (0 : Int) else 1) = 0 by rw [if_pos (by omega)])]
    exact ⟨b, M, rfl, hb, ht, Bf.refl, fun _ _ => rfl⟩
  · rw [if_neg (show ¬ (if (b : Int) = 0 then (0 : Int) else 1) = 0 by rw [if_neg (by omega)]; decide), if_neg (by omega), if_neg (by omega), xk_t (rgk (by omega)), xk_t (rgk (by omega)), xk_t (by omega), xl_e]
    have f1 : ∀ K j k : Nat, ¬ (K = 7 ∧ j = o) → mcp M 7 o (v * 2).toNat 7 o ((b : Int) * 2).toNat (2 : Int).toNat K j k = M K j k := fun K j k hk => mcp_off (fun z => hk ⟨z.1, z.2.1⟩)
    generalize mcp M 7 o (v * 2).toNat 7 o ((b : Int) * 2).toNat (2 : Int).toNat = M1 at f1
    have t1 : TB M1 o := by
      refine ⟨fun n p hn hp => ?_, ?_, fun b h1 h2 => ?_⟩
      · rw [f1 5 _ _ (by omega)]
        exact ht.1 n p hn hp
      · rw [f1 8 _ _ (by omega)]
        exact ht.2.1
      · rw [f1 8 _ _ (by omega), ht.2.2 b h1 h2]
        exact (sm_congr fun n _ _ => sm_congr fun p _ _ => by rw [f1 5 _ _ (by omega)]).symm
    obtain ⟨M', e2, pe, t2⟩ := put_tb (M := M1) (o := o) (n := n) (p := p) (b := b) t1 hn hp (by omega)
    rw [e2, xb1_s]
    refine ⟨b, M', rfl, hb, t2, fun K j k h1 h2 h3 => (pe.bf K j k h1 h2 h3).trans (f1 K j k h2), fun k hk => ?_⟩
    rw [pe.2.2 5 _ _ (by omega) (by omega), f1 5 _ _ (by omega)]
theorem ownB_ok {M : Mm} {o n p : Nat} (ht : TB M o) (hn : n < 32) (hp : p < 20) : ∃ (b : Nat) (M' : Mm), F_X2_ownBlock M o (33 * o + n) (p : Int) = some ((b : Int), M') ∧ b < 128 ∧ Br M M' o n p := by
  have hv := ht.1 n p hn hp
  obtain ⟨b, M', e, h1, h2⟩ := own23 (v := M 5 (33 * o + n) p) ht hn hp hv
  unfold F_X2_ownBlock
  rw [blockAt_ok hp, xb1_s, isBlock_ok hv, xb1_s, e]
  by_cases q : M 5 (33 * o + n) p = 0
  · rw [if_pos (show (if M 5 (33 * o + n) p = 0 then (0 : Int) else 1) = 0 by rw [if_pos q])]
    exact ⟨b, M', rfl, h1, h2⟩
  · rw [if_neg (show ¬ (if M 5 (33 * o + n) p = 0 then (0 : Int) else 1) = 0 by rw [if_neg q]; decide)]
    obtain ⟨x, hx⟩ : ∃ x : Nat, M 5 (33 * o + n) p = (x : Int) := ⟨(M 5 (33 * o + n) p).toNat, by omega⟩
    rw [hx, isShared_ok (by omega), xb1_s, if_neg (show ¬ x = 0 by omega)]
    by_cases z : M 8 o x ≤ 1
    · rw [if_pos z, if_pos rfl]
      exact ⟨x, M, rfl, by omega, ht, Bf.refl, fun _ _ => rfl⟩
    · rw [if_neg z, if_neg (by decide)]
      exact ⟨b, M', rfl, h1, h2⟩
theorem tdiv16 {a : Int} (h : 0 ≤ a) : Int.tdiv a 16 = a / 16 := Int.tdiv_eq_ediv_of_nonneg h
theorem tmod_nn {a b : Int} (h : 0 ≤ a) : Int.tmod a b = a % b := Int.tmod_eq_emod_of_nonneg h
theorem word_ok {M : Mm} {b : Nat} {a : Int} (hb : b < 128) (ha : 0 ≤ a ∧ a ≤ 1000) : ∃ w : Int, F_X2_wordOf M (b : Int) a = some w ∧ 0 ≤ w ∧ w < 256 := by
  unfold F_X2_wordOf
  rw [tmod_nn ha.1, Int.tdiv_eq_ediv_of_nonneg (show 0 ≤ a % 16 by omega), xk_t (rgk (by omega)), xk_t (rgk (by omega)), xk_t (rgk (by omega)), xk_t (rgk (by omega))]
  exact ⟨_, rfl, by omega, by omega⟩
theorem shift_ok {M : Mm} {a : Int} (ha : 0 ≤ a ∧ a ≤ 1000) : ∃ w : Int, F_X2_shiftOf M a = some w := by
  unfold F_X2_shiftOf
  rw [tmod_nn ha.1, xk_t (rgk (by omega)), xk_t (rgk (by omega))]
  exact ⟨_, rfl⟩
theorem setB_ok {M : Mm} {o n a : Nat} {v : Int} (ht : TB M o) (hn : n < 32) (ha : a < 320) : ∃ M', F_X2_setByte M o (33 * o + n) (a : Int) v = some M' ∧ Br M M' o n (a / 16) := by
  have hd : Int.tdiv (a : Int) 16 = ((a / 16 : Nat) : Int) := by
    rw [tdiv16 (by omega)]
    omega
  obtain ⟨b, M1, e, hb, t1, f1, g1⟩ := ownB_ok (p := a / 16) ht hn (by omega)
  obtain ⟨w, ew, hw⟩ := word_ok (M := M1) (b := b) (a := (a : Int)) hb (by omega)
  obtain ⟨z, ez⟩ := shift_ok (M := M1) (a := (a : Int)) (by omega)
  unfold F_X2_setByte
  rw [hd, xk_t (rgk (by omega)), e, xb2_s, ew, xb1_s, isBlock_ok (by omega), xb1_s]
  by_cases q : b = 0
  · rw [if_pos (show (if (b : Int) = 0 then (0 : Int) else 1) = 0 by rw [if_pos (by omega)])]
    exact ⟨M1, rfl, t1, f1, g1⟩
  · rw [if_neg (show ¬ (if (b : Int) = 0 then (0 : Int) else 1) = 0 by rw [if_neg (by omega)]; decide), if_neg (show ¬ w < 0 by omega), if_neg (show ¬ (256 : Int) ≤ w by omega), ez, xb1_s, xk_t hw, xk_t hw, xl_e]
    have f2 : ∀ (y : Int) (K j k : Nat), ¬ (K = 7 ∧ j = o) → mup M1 7 o w.toNat y K j k = M1 K j k := fun y K j k hk => mup_off (fun q => hk ⟨q.1, q.2.1⟩)
    refine ⟨_, rfl, ⟨fun n p hn hp => ?_, ?_, fun b h1 h2 => ?_⟩, fun K j k h1 h2 h3 => (f2 _ K j k h2).trans (f1 K j k h1 h2 h3), fun k hk => (f2 _ 5 _ _ (by omega)).trans (g1 k hk)⟩
    · rw [f2 _ 5 _ _ (by omega)]
      exact t1.1 n p hn hp
    · rw [f2 _ 8 _ _ (by omega)]
      exact t1.2.1
    · rw [f2 _ 8 _ _ (by omega), t1.2.2 b h1 h2]
      exact (sm_congr fun n _ _ => sm_congr fun p _ _ => by rw [f2 _ 5 _ _ (by omega)]).symm
