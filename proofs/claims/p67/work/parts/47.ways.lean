/-! WAYS UP, HANDLES ON A FILE, NAMES TAKEN WITH THEIR NODES -/
def seen (a : Nat → Nat) : Nat → Nat → Int
  | 0, _ => 0
  | j + 1, n => (if n = a j then 1 else 0) + seen a j n
theorem seen_sum {a : Nat → Nat} : ∀ j, (∀ i, i < j → a i < 32) → sm (seen a j) 0 32 = j
  | 0, _ => sm_zero
  | j + 1, h => by
    have e1 : sm (seen a (j + 1)) 0 32 = sm (fun n => if n = a j then (1 : Int) else 0) 0 32 + sm (seen a j) 0 32 := sm_add
    have e2 := sm_upd (f := fun _ => 0) (g := fun n => if n = a j then (1 : Int) else 0) (a := a j) (k := 0) (j := 32) (by omega) (by have := h j (by omega); omega) (fun n _ _ hn => if_neg hn)
    rw [sm_zero, if_pos rfl] at e2
    rw [e1, e2, seen_sum j (fun i hi => h i (by omega))]
    omega
theorem seen_no {a : Nat → Nat} {n : Nat} : ∀ j, (∀ i, i < j → n ≠ a i) → seen a j n = 0
  | 0, _ => rfl
  | j + 1, h => by
    show (if n = a j then (1 : Int) else 0) + seen a j n = 0
    rw [if_neg (h j (by omega)), seen_no j (fun i hi => h i (by omega))]
    rfl
theorem seen_le {a : Nat → Nat} {n : Nat} : ∀ j, (∀ i k, i < k → k < j → a i ≠ a k) → seen a j n ≤ 1
  | 0, _ => by show (0 : Int) ≤ 1; decide
  | j + 1, h => by
    show (if n = a j then (1 : Int) else 0) + seen a j n ≤ 1
    by_cases z : n = a j
    · rw [if_pos z, seen_no j (fun i hi y => h i j hi (by omega) (y.symm.trans z))]
      decide
    · have := seen_le (a := a) (n := n) j (fun i k h1 h2 => h i k h1 (by omega))
      rw [if_neg z]
      omega
theorem pigeon {a : Nat → Nat} {j : Nat} (h : ∀ i, i < j → a i < 32) (inj : ∀ i k, i < k → k < j → a i ≠ a k) : j ≤ 32 := by
  have h1 := seen_sum j h
  have h2 := sm_bd (f := seen a j) (c := 1) (k := 0) (j := 32) (fun n _ _ => seen_le j inj)
  omega
theorem least {P : Nat → Prop} (j : Nat) : P j → ∃ k, k ≤ j ∧ P k ∧ ∀ i, i < k → ¬ P i := by
  induction j using Nat.strongRecOn with
  | _ j ih =>
    intro h
    by_cases q : ∃ i, i < j ∧ P i
    · obtain ⟨i, hi, hp⟩ := q
      obtain ⟨k, k1, k2, k3⟩ := ih i hi hp
      exact ⟨k, by omega, k2, k3⟩
    · exact ⟨j, Nat.le_refl j, h, fun i hi hp => q ⟨i, hi, hp⟩⟩
theorem upN_add {M : Mm} {o : Nat} : ∀ (i j n : Nat), upN M o (i + j) n = upN M o j (upN M o i n)
  | 0, j, n => by
    rw [Nat.zero_add]
    rfl
  | i + 1, j, n => by
    rw [show i + 1 + j = (i + j) + 1 by omega]
    exact upN_add i j _
theorem upN_succ {M : Mm} {o k n : Nat} : upN M o (k + 1) n = (M 2 (33 * o + upN M o k n) 4).toNat := upN_add k 1 n
/-- the first step at which the way up comes to the first node -/
def Up (M : Mm) (o n m : Nat) : Prop := upN M o m n = 0 ∧ ∀ i, i < m → upN M o i n ≠ 0
theorem up31 {M : Mm} {o n : Nat} (hr : Pr M o) (hn : n < 32) (h : ∃ j, upN M o j n = 0) : ∃ m, m ≤ 31 ∧ Up M o n m := by
  obtain ⟨j, hj⟩ := h
  obtain ⟨m, -, m1, m2⟩ := least (P := fun j => upN M o j n = 0) j hj
  refine ⟨m, ?_, m1, m2⟩
  have := pigeon (a := fun i => upN M o i n) (j := m + 1) (fun i _ => upN_lt hr i n hn) (fun i k h1 h2 e => by
    have e2 : upN M o i n = upN M o k n := e
    refine m2 (i + (m - k)) (by omega) ?_
    rw [upN_add, e2, ← upN_add, show k + (m - k) = m by omega]
    exact m1)
  omega
theorem within5 {M : Mm} {o n x m : Nat} (hr : Pr M o) (hn : n < 32) (hm : m ≤ 31) (h : Up M o n m) : ∀ (j q k : Nat), k + j = m → (∀ i, i < k → upN M o i n ≠ x) → ∃ r, F_X2_isWithin_5 M (q + j + 1) o (x : Int) ((upN M o k n : Nat) : Int) (k : Int) = some r ∧ (r = 0 ∨ r = 1) ∧ (r = 0 → ∀ i, i ≤ m → upN M o i n ≠ x)
  | 0, q, k, hk, hx => by
    have hk2 : k = m := by omega
    unfold F_X2_isWithin_5 F_X2_isWithin_36
    rw [if_neg (by omega)]
    by_cases z : ((upN M o k n : Nat) : Int) = (x : Int)
    · rw [if_pos z, if_pos z]
      exact ⟨1, rfl, Or.inr rfl, fun y => by omega⟩
    · rw [if_neg z, if_neg z, if_pos (by rw [hk2, h.1]; rfl)]
      refine ⟨0, rfl, Or.inl rfl, fun _ i hi => ?_⟩
      by_cases y : i = k
      · rw [y]
        omega
      · exact hx i (by omega)
  | j + 1, q, k, hk, hx => by
    have h0 := h.2 k (by omega)
    show ∃ r, F_X2_isWithin_5 M ((q + j + 1) + 1) o (x : Int) ((upN M o k n : Nat) : Int) (k : Int) = some r ∧ _
    unfold F_X2_isWithin_5 F_X2_isWithin_36
    rw [if_neg (by omega)]
    by_cases z : ((upN M o k n : Nat) : Int) = (x : Int)
    · rw [if_pos z, if_pos z]
      exact ⟨1, rfl, Or.inr rfl, fun y => by omega⟩
    · have hp := hr _ (upN_lt hr k n hn)
      have e : M 2 (33 * o + upN M o k n) 4 = ((upN M o (k + 1) n : Nat) : Int) := by
        rw [upN_succ]
        omega
      rw [if_neg z, if_neg (by omega), at_ok (upN_lt hr k n hn), xb1_s, xk_t (rgk (by omega)), suc, e]
      exact within5 hr hn hm h j q (k + 1) (by omega) (fun i hi => by
        by_cases y : i = k
        · rw [y]
          omega
        · exact hx i (by omega))
theorem within_ok {M : Mm} {o f : Nat} (x : Nat) (hr : Pr M o) (hf : f < 32) (h : ∃ j, upN M o j f = 0) : ∃ r, F_X2_isWithin M o (f : Int) (x : Int) = some r ∧ (r = 0 ∨ r = 1) ∧ (r = 0 → ∃ m, Up M o f m ∧ ∀ i, i ≤ m → upN M o i f ≠ x) := by
  obtain ⟨m, hm, hu⟩ := up31 hr hf h
  obtain ⟨r, h1, h2, h3⟩ := within5 (x := x) hr hf hm hu m (FU - (m + 1)) 0 (by omega) (fun i hi => by omega)
  rw [show FU - (m + 1) + m + 1 = FU by have := fu_big; omega] at h1
  exact ⟨r, h1, h2, fun z => ⟨m, hu, h3 z⟩⟩
theorem Up.ac {M : Mm} {o f x m : Nat} (h : Up M o f m) (hx : ∀ i, i ≤ m → upN M o i f ≠ x) : AC M o f x := ⟨m, h.1, hx⟩
theorem depth4 {M : Mm} {o : Nat} (hr : Pr M o) : ∀ (j q k : Nat) (v : Int), k + j = 32 → 0 ≤ v ∧ v ≤ 31 → ∃ r, F_X2_depth_4 M (q + j + 1) o v (k : Int) = some r
  | 0, q, k, v, hk, hv => by
    unfold F_X2_depth_4
    rw [if_pos (by omega)]
    exact ⟨_, rfl⟩
  | j + 1, q, k, v, hk, hv => by
    show ∃ r, F_X2_depth_4 M ((q + j + 1) + 1) o v (k : Int) = some r
    unfold F_X2_depth_4
    rw [if_neg (by omega)]
    by_cases z : v = 0
    · rw [if_pos z]
      exact ⟨_, rfl⟩
    · rw [if_neg z, at_okI (by omega), xb1_s, xk_t (rgk (by omega)), suc]
      exact depth4 hr j q (k + 1) _ (by omega) (hr _ (by omega))
theorem depth_ok {M : Mm} {o : Nat} {v : Int} (hr : Pr M o) (hv : 0 ≤ v ∧ v ≤ 31) : ∃ r, F_X2_depth M o v = some r := depth4 hr 32 (FU - 33) 0 v (by decide) hv
/-! a handle stands on a file -/
def HeldP (M : Mm) (n : Nat) : Prop := ∃ h : Nat, h < 6 ∧ M 11 h 0 ≠ 0 ∧ M 11 h 1 = n
theorem held2 {M : Mm} {n : Nat} : ∀ (j q k : Nat), k + j = 6 → (∀ h, h < k → ¬ (M 11 h 0 ≠ 0 ∧ M 11 h 1 = n)) → ∃ r, F_X3_isHeld_2 M (q + j + 1) (n : Int) (k : Int) = some r ∧ ((r = 0 ∧ ¬ HeldP M n) ∨ (r = 1 ∧ HeldP M n))
  | 0, q, k, hk, hh => by
    unfold F_X3_isHeld_2
    rw [if_pos (by omega)]
    refine ⟨0, rfl, Or.inl ⟨rfl, fun z => ?_⟩⟩
    obtain ⟨h, h1, h2⟩ := z
    exact hh h (by omega) h2
  | j + 1, q, k, hk, hh => by
    show ∃ r, F_X3_isHeld_2 M ((q + j + 1) + 1) (n : Int) (k : Int) = some r ∧ _
    unfold F_X3_isHeld_2 F_X0_isOn
    rw [if_neg (by omega), xk_t (by omega), Int.toNat_natCast]
    by_cases z : M 11 k 0 = 0
    · rw [if_pos z, xb1_s, if_pos rfl, xk_t (rgk (by omega)), suc]
      exact held2 j q (k + 1) (by omega) (fun h h1 h2 => by
        by_cases y : h = k
        · rw [y] at h2
          exact h2.1 z
        · exact hh h (by omega) h2)
    · rw [if_neg z]
      by_cases w : M 11 k 1 = (n : Int)
      · rw [if_pos w, xb1_s, if_neg (by decide)]
        exact ⟨1, rfl, Or.inr ⟨rfl, k, by omega, z, w⟩⟩
      · rw [if_neg w, xb1_s, if_pos rfl, xk_t (rgk (by omega)), suc]
        exact held2 j q (k + 1) (by omega) (fun h h1 h2 => by
          by_cases y : h = k
          · rw [y] at h2
            exact w h2.2
          · exact hh h (by omega) h2)
theorem held_ok {M : Mm} (n : Nat) : ∃ r, F_X3_isHeld M (n : Int) = some r ∧ ((r = 0 ∧ ¬ HeldP M n) ∨ (r = 1 ∧ HeldP M n)) := held2 6 (FU - 7) 0 (by decide) (fun h hh => by omega)
theorem HeldP.to {M M' : Mm} {n : Nat} (h : HeldP M n) (e : ∀ h k : Nat, h < 6 → k < 2 → M' 11 h k = M 11 h k) : HeldP M' n := by
  obtain ⟨k, k1, k2, k3⟩ := h
  exact ⟨k, k1, by rw [e k 0 k1 (by omega)]; exact k2, by rw [e k 1 k1 (by omega)]; exact k3⟩
/-- a name taken, and its node too where nothing keeps that -/
def TknE (M M' : Mm) (d f q y : Nat) : Prop := (1 ≤ y ∧ y < 32) ∧ f ≠ y ∧ (∃ e : Nat, M 2 (33 * d + f) 8 = e ∧ e ≤ 12 ∧ q < e ∧ TakC M M' (33 * d + f) q e) ∧ (∀ n k, n < 32 → n ≠ y → ¬ (n = f ∧ k = 8) → M' 2 (33 * d + n) k = M 2 (33 * d + n) k) ∧ (∀ n k, n ≠ f → M' 3 (33 * d + n) k = M 3 (33 * d + n) k ∧ M' 4 (33 * d + n) k = M 4 (33 * d + n) k) ∧ ((M' 2 (33 * d + y) 2 = M 2 (33 * d + y) 2 - 1 ∧ 1 ≤ M 2 (33 * d + y) 2 ∧ (M' 2 (33 * d + y) 2 ≠ 0 ∨ HeldP M y) ∧ ∀ k, k ≠ 2 → M' 2 (33 * d + y) k = M 2 (33 * d + y) k) ∨ (M 2 (33 * d + y) 2 = 1 ∧ ¬ HeldP M y ∧ ∀ k, k < 9 → M' 2 (33 * d + y) k = 0))
theorem SE.not_self {M : Mm} {o f q : Nat} (g : SE M o) (hf : f < 32) (hq : (q : Int) < M 2 (33 * o + f) 8) : M 4 (33 * o + f) q ≠ f := fun z => by
  have sf : M 2 (33 * o + f) 0 = 2 := by
    by_cases w : M 2 (33 * o + f) 0 = 2
    · exact w
    · have := (g.rg hf).2.2.2.2.2 w
      omega
  have v := (g.en hf).2.1 q hq
  have i := (g.is hf q hq).2
  rw [z, Int.toNat_natCast] at i
  have p := i sf
  obtain ⟨j, hj⟩ := g.up hf sf
  have key : ∀ j, upN M o j f = f := fun j => by
    induction j with
    | zero => rfl
    | succ j ih =>
      show upN M o j (M 2 (33 * o + f) 4).toNat = f
      rw [p, Int.toNat_natCast]
      exact ih
  rw [key] at hj
  omega
theorem takeName_ok {M : Mm} {l d f : Nat} {a : Int} (hI : IDX M l d) (g : SE M d) (g2 : G2 M d) (hf : f < 32) (hy : ∀ q y : Nat, (q : Int) < M 2 (33 * d + f) 8 → M 3 (33 * d + f) q = a → M 4 (33 * d + f) q = y → M 2 (33 * d + y) 0 = 2 → M 2 (33 * d + y) 8 = 0 ∧ M 2 (33 * d + y) 2 = 1) : (F_X3_takeName M (f : Int) a = some M ∧ ∀ q : Nat, (q : Int) < M 2 (33 * d + f) 8 → M 3 (33 * d + f) q ≠ a) ∨ ∃ (q y : Nat) (M' : Mm), (q : Int) < M 2 (33 * d + f) 8 ∧ M 3 (33 * d + f) q = a ∧ M 4 (33 * d + f) q = y ∧ F_X3_takeName M (f : Int) a = some M' ∧ SE M' d ∧ G2 M' d ∧ Fx M M' d ∧ TknE M M' d f q y := by
  have he := g.er f hf
  rcases slot_ok (M := M) (i := 33 * d + f) (a := a) he with ⟨h1, h2⟩ | ⟨q, h1, h2, h3⟩
  · left
    refine ⟨?_, h2⟩
    unfold F_X3_takeName F_X2_detach
    rw [xk_t hI.d01, hI.d, at_ok hf, xb1_s, h1, xb1_s, nodeIn_no, xb1_s, if_pos rfl, xb2_s, if_pos rfl]
  · right
    have v := (g.en hf).2.1 q h2
    obtain ⟨y, ey⟩ : ∃ y : Nat, M 4 (33 * d + f) q = y := ⟨(M 4 (33 * d + f) q).toNat, by omega⟩
    have y32 : y < 32 := by omega
    have fy : f ≠ y := fun z => g.not_self hf h2 (by rw [ey, z])
    obtain ⟨s0, -⟩ := g.is hf q h2
    rw [ey, Int.toNat_natCast] at s0
    have lp := lnk_pos g.er hf h2
    rw [ey, ← (g.lk y32).1] at lp
    obtain ⟨M1, e1, D⟩ := detach_e (a := a) hf y32 he h2 h1 ey (by have := (g.rg y32).2.2.1; omega)
    have se1 := D.se g hf y32
    have I1 : IDX M1 l d := hI.fr (D.fx hf y32).fr
    have gb1 : G2 M1 d := g2.ag D.ag2
    have ly : M1 2 (33 * d + y) 2 = M 2 (33 * d + y) 2 - 1 := D.2.2.1
    have h11 : ∀ h k : Nat, h < 6 → k < 2 → M1 11 h k = M 11 h k := fun h k _ _ => D.fx hf y32 11 h k (by omega) (by omega)
    have h11' : ∀ h k : Nat, h < 6 → k < 2 → M 11 h k = M1 11 h k := fun h k a b => (h11 h k a b).symm
    have keep : F_X3_takeName M (f : Int) a = some M1 → (M1 2 (33 * d + y) 2 ≠ 0 ∨ HeldP M y) → ∃ (q y : Nat) (M' : Mm), (q : Int) < M 2 (33 * d + f) 8 ∧ M 3 (33 * d + f) q = a ∧ M 4 (33 * d + f) q = y ∧ F_X3_takeName M (f : Int) a = some M' ∧ SE M' d ∧ G2 M' d ∧ Fx M M' d ∧ TknE M M' d f q y := fun e hk => by
      refine ⟨q, y, M1, h2, h3, ey, e, se1, gb1, D.fx hf y32, ⟨by omega, y32⟩, fy, D.1, fun n k hn n1 n2 => D.k (by omega) n2, fun n k n1 => D.k34 n1, Or.inl ⟨ly, lp, hk, fun k hk => D.k (by omega) (by omega)⟩⟩
    have step : F_X3_takeName M (f : Int) a = if M1 2 (33 * d + y) 2 = 0 then (xb1 (F_X3_isHeld M1 (y : Int)) fun y17 => (if y17 = 0 then (xk (M1 0 0 1 = 0 ∨ M1 0 0 1 = 1) (xb1 (F_X2_drop M1 ((M1 0 0 1).toNat) (y : Int)) fun M23 => (some M23))) else (some M1))) else (some M1) := by
      unfold F_X3_takeName
      rw [xk_t hI.d01, hI.d, e1, xb2_s, if_neg (by omega), xk_t I1.d01, I1.d, at_ok y32, xb1_s]
    by_cases z : M1 2 (33 * d + y) 2 = 0
    · obtain ⟨r, er, hr⟩ := held_ok (M := M1) y
      rw [if_pos z, er, xb1_s] at step
      rcases hr with ⟨r0, hn⟩ | ⟨r1, hh⟩
      · have e8 : M1 2 (33 * d + y) 8 = 0 := by
          rw [D.k (by omega) (by omega)]
          by_cases w : M 2 (33 * d + y) 0 = 2
          · exact (hy q y h2 h3 ey w).1
          · exact (g.rg y32).2.2.2.2.2 w
        obtain ⟨M2, e2, t2, dr⟩ := drop_ok (M := M1) (o := d) (m := y) gb1.tb y32
        rw [if_pos r0, xk_t I1.d01, I1.d, e2, xb1_s] at step
        have ze := dr.ze
        have y1 : 1 ≤ y := by omega
        refine ⟨q, y, M2, h2, h3, ey, step, ze.se se1 ⟨y1, y32⟩ z e8 (by decide) (by decide), dr.g2 gb1 t2, (D.fx hf y32).trans (dr.fx y32), ⟨y1, y32⟩, fy, ?_, fun n k hn n1 n2 => ?_, fun n k n1 => ?_, Or.inr ⟨by omega, fun w => hn (w.to h11), dr.1⟩⟩
        · obtain ⟨e, a1, a2, a3, c⟩ := D.1
          exact ⟨e, a1, a2, a3, c.to (ze.k fy) (fun k => ze.2 3 _ _ (by omega) (by omega) (by omega)) (fun k => ze.2 4 _ _ (by omega) (by omega) (by omega))⟩
        · rw [ze.k n1]
          exact D.k (by omega) n2
        · rw [ze.2 3 _ _ (by omega) (by omega) (by omega), ze.2 4 _ _ (by omega) (by omega) (by omega)]
          exact D.k34 n1
      · rw [if_neg (by omega)] at step
        exact keep step (Or.inr (hh.to h11'))
    · rw [if_neg z] at step
      exact keep step (Or.inl z)
theorem TknE.lc {M M' : Mm} {d f q y : Nat} (h : TknE M M' d f q y) (g : SE M d) (hf : f < 32) (hy : M 2 (33 * d + y) 0 = 2 → M 2 (33 * d + y) 2 = 1) (hh : HeldP M y → M 2 (33 * d + y) 0 = 1) {n : Nat} (hn : n < 32) (hl : n ≠ y → LkC M d n) : LkC M' d n := by
  obtain ⟨yr, fy, -, c, -, o⟩ := h
  by_cases z : n = y
  · subst z
    rcases o with ⟨o1, o4, o2, o3⟩ | ⟨-, -, o2⟩
    · have e0 := o3 0 (by omega)
      refine ⟨fun _ s => ?_, fun s => ?_⟩
      · rw [e0] at s
        rcases o2 with o2 | o2
        · have := hy s
          omega
        · have := hh o2
          omega
      · rw [e0] at s
        rcases o2 with o2 | o2
        · omega
        · have := hh o2
          omega
    · unfold LkC
      rw [o2 0 (by omega)]
      exact ⟨fun _ s => absurd s (by decide), fun s => absurd s (by decide)⟩
  · unfold LkC
    rw [c n 0 hn z (by omega), c n 2 hn z (by omega)]
    exact hl z
