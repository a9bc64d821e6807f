/-! NAMES PUT IN AND TAKEN OUT -/
theorem sm_split {f : Nat → Int} : ∀ {k a b : Nat}, sm f k (a + b) = sm f k a + sm f (k + a) b
  | k, 0, b => by
    rw [Nat.zero_add, Nat.add_zero]
    show sm f k b = 0 + sm f k b
    omega
  | k, a + 1, b => by
    rw [show a + 1 + b = (a + b) + 1 by omega]
    show f k + sm f (k + 1) (a + b) = f k + sm f (k + 1) a + sm f (k + (a + 1)) b
    rw [sm_split, show k + 1 + a = k + (a + 1) by omega]
    omega
theorem sm_shift {f : Nat → Int} : ∀ {k j : Nat}, sm f (k + 1) j = sm (fun i => f (i + 1)) k j
  | _, 0 => rfl
  | k, j + 1 => by
    show f (k + 1) + sm f (k + 1 + 1) j = f (k + 1) + sm (fun i => f (i + 1)) (k + 1) j
    rw [sm_shift]
/-- names and nodes of one cell behind an insert, the slots alone -/
def InsC (M M' : Mm) (i s : Nat) (a x : Int) (e : Nat) : Prop := M' 2 i 8 = (e : Int) + 1 ∧ (∀ k, k < s → M' 3 i k = M 3 i k ∧ M' 4 i k = M 4 i k) ∧ (M' 3 i s = a ∧ M' 4 i s = x) ∧ (∀ k, s < k → k ≤ e → M' 3 i k = M 3 i (k - 1) ∧ M' 4 i k = M 4 i (k - 1)) ∧ (0 < s → M 3 i (s - 1) ≤ a) ∧ (s < e → a < M 3 i s) ∧ s ≤ e
/-- the row on the way: from s on all is one further -/
def Sh (M0 M : Mm) (i s e : Nat) (a : Int) : Prop := (∀ k, k ≤ s → M 3 i k = M0 3 i k ∧ M 4 i k = M0 4 i k) ∧ (∀ k, s < k → k ≤ e → M 3 i k = M0 3 i (k - 1) ∧ M 4 i k = M0 4 i (k - 1)) ∧ (s < e → a < M0 3 i s) ∧ ∀ K j k : Nat, ¬ (K = 3 ∧ j = i) → ¬ (K = 4 ∧ j = i) → M K j k = M0 K j k
/-- only the names of a cell and how many there are -/
def Nf (M M' : Mm) (i : Nat) : Prop := ∀ K j k : Nat, ¬ (K = 3 ∧ j = i) → ¬ (K = 4 ∧ j = i) → ¬ (K = 2 ∧ j = i ∧ k = 8) → M' K j k = M K j k
theorem ins87 {M0 M : Mm} {i s e : Nat} {a x : Int} (he : e < 12) (h8 : M0 2 i 8 = e) (hs : s ≤ e) (h : Sh M0 M i s e a) (hl : 0 < s → M0 3 i (s - 1) ≤ a) : ∃ M', F_X1_insert_87 M i a x (s : Int) = some M' ∧ InsC M0 M' i s a x e ∧ Nf M0 M' i := by
  obtain ⟨h1, h2, h3, h4⟩ := h
  unfold F_X1_insert_87
  have e8 : mup (mup M 3 i s a) 4 i s x 2 i 8 = e := by rw [mup_off (by omega), mup_off (by omega), h4 2 i 8 (by omega) (by omega), h8]
  rw [xk_t (by omega), xl_e, xk_t (by omega), xl_e, Int.toNat_natCast, e8, xk_t (rgk (by omega)), xl_e]
  have c3 : ∀ k, mup (mup (mup M 3 i s a) 4 i s x) 2 i 8 ((e : Int) + 1) 3 i k = if k = s then a else M 3 i k := by
    intro k
    rw [mup_off (by omega), mup_off (by omega)]
    by_cases z : k = s
    · rw [if_pos z, z, mup_at]
    · rw [if_neg z, mup_off (by omega)]
  have c4 : ∀ k, mup (mup (mup M 3 i s a) 4 i s x) 2 i 8 ((e : Int) + 1) 4 i k = if k = s then x else M 4 i k := by
    intro k
    rw [mup_off (by omega)]
    by_cases z : k = s
    · rw [if_pos z, z, mup_at]
    · rw [if_neg z, mup_off (by omega), mup_off (by omega)]
  have cf : ∀ K j k : Nat, ¬ (K = 3 ∧ j = i) → ¬ (K = 4 ∧ j = i) → ¬ (K = 2 ∧ j = i ∧ k = 8) → mup (mup (mup M 3 i s a) 4 i s x) 2 i 8 ((e : Int) + 1) K j k = M K j k := by
    intro K j k g1 g2 g3
    rw [mup_off (by omega), mup_off (by omega), mup_off (by omega)]
  have c8 : mup (mup (mup M 3 i s a) 4 i s x) 2 i 8 ((e : Int) + 1) 2 i 8 = (e : Int) + 1 := mup_at
  generalize mup (mup (mup M 3 i s a) 4 i s x) 2 i 8 ((e : Int) + 1) = M' at c3 c4 cf c8
  refine ⟨M', rfl, ⟨c8, fun k hk => ?_, ⟨?_, ?_⟩, fun k k1 k2 => ?_, hl, h3, hs⟩, fun K j k g1 g2 g3 => (cf K j k g1 g2 g3).trans (h4 K j k g1 g2)⟩
  · rw [c3, c4, if_neg (by omega), if_neg (by omega)]
    exact h1 k (by omega)
  · rw [c3, if_pos rfl]
  · rw [c4, if_pos rfl]
  · rw [c3, c4, if_neg (by omega), if_neg (by omega)]
    exact h2 k k1 k2
theorem ins37 {M0 : Mm} {i e : Nat} {a x : Int} (he : e < 12) (h8 : M0 2 i 8 = e) : ∀ (s q : Nat) (M : Mm), s ≤ e → Sh M0 M i s e a → ∃ M' t, F_X1_insert_37 (q + s + 1) M i a x (s : Int) = some M' ∧ InsC M0 M' i t a x e ∧ Nf M0 M' i
  | 0, q, M, hs, h => by
    obtain ⟨M', e1, h1, h2⟩ := ins87 (x := x) he h8 hs h (fun z => by omega)
    unfold F_X1_insert_37
    rw [if_pos (by omega)]
    exact ⟨M', 0, e1, h1, h2⟩
  | s + 1, q, M, hs, h => by
    show ∃ M' t, F_X1_insert_37 ((q + s + 1) + 1) M i a x ((s + 1 : Nat) : Int) = some M' ∧ _
    unfold F_X1_insert_37
    have c : ((s + 1 : Nat) : Int) - 1 = (s : Int) := by omega
    have c2 : ((s + 1 : Nat) : Int) + -1 = (s : Int) := by omega
    rw [if_neg (by omega), c, xk_t (rgk (by omega)), xk_t (by omega), Int.toNat_natCast]
    by_cases z : M 3 i s ≤ a
    · obtain ⟨M', e1, h1, h2⟩ := ins87 (x := x) he h8 hs h (fun _ => by
        rw [Nat.add_sub_cancel, ← (h.1 s (by omega)).1]
        exact z)
      rw [if_pos z]
      exact ⟨M', s + 1, e1, h1, h2⟩
    · rw [if_neg z, xk_t (rgk (by omega)), xk_t (by omega), xk_t (by omega), xl_e, xk_t (rgk (by omega)), xk_t (by omega), xk_t (by omega), xl_e, Int.toNat_natCast, c2, xk_t (rgk (by omega))]
      obtain ⟨h1, h2, h3, h4⟩ := h
      have c3 : ∀ k, mup (mup M 3 i (s + 1) (M 3 i s)) 4 i (s + 1) (mup M 3 i (s + 1) (M 3 i s) 4 i s) 3 i k = if k = s + 1 then M 3 i s else M 3 i k := by
        intro k
        rw [mup_off (by omega)]
        by_cases y : k = s + 1
        · rw [if_pos y, y, mup_at]
        · rw [if_neg y, mup_off (by omega)]
      have c4 : ∀ k, mup (mup M 3 i (s + 1) (M 3 i s)) 4 i (s + 1) (mup M 3 i (s + 1) (M 3 i s) 4 i s) 4 i k = if k = s + 1 then M 4 i s else M 4 i k := by
        intro k
        by_cases y : k = s + 1
        · rw [if_pos y, y, mup_at, mup_off (by omega)]
        · rw [if_neg y, mup_off (by omega), mup_off (by omega)]
      have cf : ∀ K j k : Nat, ¬ (K = 3 ∧ j = i) → ¬ (K = 4 ∧ j = i) → mup (mup M 3 i (s + 1) (M 3 i s)) 4 i (s + 1) (mup M 3 i (s + 1) (M 3 i s) 4 i s) K j k = M K j k := by
        intro K j k g1 g2
        rw [mup_off (by omega), mup_off (by omega)]
      generalize mup (mup M 3 i (s + 1) (M 3 i s)) 4 i (s + 1) (mup M 3 i (s + 1) (M 3 i s) 4 i s) = M1 at c3 c4 cf
      refine ins37 he h8 s q M1 (by omega) ⟨fun k hk => ?_, fun k k1 k2 => ?_, fun _ => ?_, fun K j k g1 g2 => (cf K j k g1 g2).trans (h4 K j k g1 g2)⟩
      · rw [c3, c4, if_neg (by omega), if_neg (by omega)]
        exact h1 k (by omega)
      · rw [c3, c4]
        by_cases y : k = s + 1
        · rw [if_pos y, if_pos y, y, Nat.add_sub_cancel]
          exact h1 s (by omega)
        · rw [if_neg y, if_neg y]
          exact h2 k (by omega) k2
      · rw [← (h1 s (by omega)).1]
        omega
theorem insert_ok {M : Mm} {i e : Nat} {a x : Int} (he : e < 12) (h8 : M 2 i 8 = e) : ∃ M' s, F_X1_insert M i a x = some M' ∧ InsC M M' i s a x e ∧ Nf M M' i := by
  obtain ⟨q, hq⟩ : ∃ q, FU = q + e + 1 := ⟨FU - (e + 1), by have := fu_big; omega⟩
  unfold F_X1_insert
  rw [h8, if_neg (by omega), if_neg (by omega), if_pos (by omega), hq]
  exact ins37 he h8 e q M (Nat.le_refl e) ⟨fun k _ => ⟨rfl, rfl⟩, fun k k1 k2 => by omega, fun z => by omega, fun _ _ _ _ _ => rfl⟩
/-- behind a takeOut -/
def TakC (M M' : Mm) (i q e : Nat) : Prop := M' 2 i 8 = (e : Int) - 1 ∧ (∀ k, k < q → M' 3 i k = M 3 i k ∧ M' 4 i k = M 4 i k) ∧ ∀ k, q ≤ k → k + 1 < e → M' 3 i k = M 3 i (k + 1) ∧ M' 4 i k = M 4 i (k + 1)
theorem tak17 {M0 : Mm} {i e p : Nat} (he : e ≤ 12) (h8 : M0 2 i 8 = e) : ∀ (j q r : Nat) (M : Mm), r + 1 + j = e → p ≤ r → (∀ k, k < p → M 3 i k = M0 3 i k ∧ M 4 i k = M0 4 i k) → (∀ k, p ≤ k → k < r → M 3 i k = M0 3 i (k + 1) ∧ M 4 i k = M0 4 i (k + 1)) → (∀ k, r ≤ k → M 3 i k = M0 3 i k ∧ M 4 i k = M0 4 i k) → (∀ K j k : Nat, ¬ (K = 3 ∧ j = i) → ¬ (K = 4 ∧ j = i) → M K j k = M0 K j k) → ∃ M', F_X1_takeOut_17 (q + j + 1) M i ((r + 1 : Nat) : Int) = some M' ∧ TakC M0 M' i p e ∧ Nf M0 M' i
  | 0, q, r, M, hr, hp, h1, h2, h3, h4 => by
    have e8 : M 2 i 8 = e := (h4 2 i 8 (by omega) (by omega)).trans h8
    unfold F_X1_takeOut_17 F_X1_takeOut_77
    rw [e8, if_pos (by omega), xk_t (rgk (by omega)), xl_e]
    have cf : ∀ K j k : Nat, ¬ (K = 2 ∧ j = i ∧ k = 8) → mup M 2 i 8 ((e : Int) - 1) K j k = M K j k := fun K j k g => mup_off g
    have c8 : mup M 2 i 8 ((e : Int) - 1) 2 i 8 = (e : Int) - 1 := mup_at
    generalize mup M 2 i 8 ((e : Int) - 1) = M' at cf c8
    refine ⟨M', rfl, ⟨c8, fun k hk => ?_, fun k k1 k2 => ?_⟩, fun K j k g1 g2 g3 => (cf K j k g3).trans (h4 K j k g1 g2)⟩
    · rw [cf 3 _ _ (by omega), cf 4 _ _ (by omega)]
      exact h1 k hk
    · rw [cf 3 _ _ (by omega), cf 4 _ _ (by omega)]
      exact h2 k k1 (by omega)
  | j + 1, q, r, M, hr, hp, h1, h2, h3, h4 => by
    have e8 : M 2 i 8 = e := (h4 2 i 8 (by omega) (by omega)).trans h8
    have c : ((r + 1 : Nat) : Int) - 1 = (r : Int) := by omega
    show ∃ M', F_X1_takeOut_17 ((q + j + 1) + 1) M i ((r + 1 : Nat) : Int) = some M' ∧ _
    unfold F_X1_takeOut_17
    rw [e8, if_neg (by omega), if_neg (by omega), if_neg (by omega), c, xk_t (rgk (by omega)), xk_t (by omega), xk_t (by omega), xl_e, xk_t (rgk (by omega)), xk_t (by omega), xk_t (by omega), xl_e, Int.toNat_natCast, Int.toNat_natCast, xk_t (rgk (by omega)), suc]
    have c3 : ∀ k, mup (mup M 3 i r (M 3 i (r + 1))) 4 i r (mup M 3 i r (M 3 i (r + 1)) 4 i (r + 1)) 3 i k = if k = r then M 3 i (r + 1) else M 3 i k := by
      intro k
      rw [mup_off (by omega)]
      by_cases y : k = r
      · rw [if_pos y, y, mup_at]
      · rw [if_neg y, mup_off (by omega)]
    have c4 : ∀ k, mup (mup M 3 i r (M 3 i (r + 1))) 4 i r (mup M 3 i r (M 3 i (r + 1)) 4 i (r + 1)) 4 i k = if k = r then M 4 i (r + 1) else M 4 i k := by
      intro k
      by_cases y : k = r
      · rw [if_pos y, y, mup_at, mup_off (by omega)]
      · rw [if_neg y, mup_off (by omega), mup_off (by omega)]
    have cf : ∀ K j k : Nat, ¬ (K = 3 ∧ j = i) → ¬ (K = 4 ∧ j = i) → mup (mup M 3 i r (M 3 i (r + 1))) 4 i r (mup M 3 i r (M 3 i (r + 1)) 4 i (r + 1)) K j k = M K j k := by
      intro K j k g1 g2
      rw [mup_off (by omega), mup_off (by omega)]
    generalize mup (mup M 3 i r (M 3 i (r + 1))) 4 i r (mup M 3 i r (M 3 i (r + 1)) 4 i (r + 1)) = M1 at c3 c4 cf
    refine tak17 he h8 j q (r + 1) M1 (by omega) (by omega) (fun k hk => ?_) (fun k k1 k2 => ?_) (fun k hk => ?_) (fun K j k g1 g2 => (cf K j k g1 g2).trans (h4 K j k g1 g2))
    · rw [c3, c4, if_neg (by omega), if_neg (by omega)]
      exact h1 k hk
    · rw [c3, c4]
      by_cases y : k = r
      · rw [if_pos y, if_pos y, y]
        exact h3 (r + 1) (by omega)
      · rw [if_neg y, if_neg y]
        exact h2 k k1 (by omega)
    · rw [c3, c4, if_neg (by omega), if_neg (by omega)]
      exact h3 k (by omega)
theorem takeOut_ok {M : Mm} {i e q : Nat} (he : e ≤ 12) (h8 : M 2 i 8 = e) (hq : q < e) : ∃ M', F_X1_takeOut M i (q : Int) = some M' ∧ TakC M M' i q e ∧ Nf M M' i := by
  obtain ⟨r, hr⟩ : ∃ r, FU = r + (e - (q + 1)) + 1 := ⟨FU - (e - (q + 1) + 1), by have := fu_big; omega⟩
  unfold F_X1_takeOut
  rw [h8, if_neg (by omega), if_pos (by omega), xk_t (rgk (by omega)), suc, hr]
  exact tak17 he h8 (e - (q + 1)) r q M (by omega) (Nat.le_refl q) (fun k _ => ⟨rfl, rfl⟩) (fun k k1 k2 => by omega) (fun k _ => ⟨rfl, rfl⟩) (fun _ _ _ _ _ => rfl)
/-! how often a node stands in a cell, behind these -/
theorem occ_same {M M' : Mm} {i : Nat} {x : Int} (h8 : M' 2 i 8 = M 2 i 8) (h4 : ∀ k, k < 12 → M' 4 i k = M 4 i k) : occ M' i x = occ M i x := sm_congr fun k _ hk => by rw [h8, h4 k (by omega)]
theorem InsC.occE {M M' : Mm} {i s e : Nat} {a x : Int} (h : InsC M M' i s a x e) (he : e < 12) (h8 : M 2 i 8 = e) (z : Int) : occ M' i z = occ M i z + if x = z then 1 else 0 := by
  obtain ⟨c8, c1, ⟨-, c2⟩, c3, -, -, hs⟩ := h
  obtain ⟨r, hr⟩ : ∃ r, 11 = s + r := ⟨11 - s, by omega⟩
  have eA : occ M' i z = sm (fun k => if (k : Int) < M' 2 i 8 ∧ M' 4 i k = z then 1 else 0) 0 (s + (r + 1)) := by rw [show s + (r + 1) = 12 by omega]; rfl
  have eB : occ M i z = sm (fun k => if (k : Int) < M 2 i 8 ∧ M 4 i k = z then 1 else 0) 0 (s + (r + 1)) := by rw [show s + (r + 1) = 12 by omega]; rfl
  rw [eA, eB, sm_split (f := fun k => if (k : Int) < M' 2 i 8 ∧ M' 4 i k = z then 1 else 0) (k := 0) (a := s) (b := r + 1), sm_split (f := fun k => if (k : Int) < M 2 i 8 ∧ M 4 i k = z then 1 else 0) (k := 0) (a := s) (b := r + 1), sm_snoc (f := fun k => if (k : Int) < M 2 i 8 ∧ M 4 i k = z then 1 else 0) (k := 0 + s)]
  have e1 : sm (fun k => if (k : Int) < M' 2 i 8 ∧ M' 4 i k = z then 1 else 0) 0 s = sm (fun k => if (k : Int) < M 2 i 8 ∧ M 4 i k = z then 1 else 0) 0 s := sm_congr fun k _ hk => by
    rw [c8, h8, (c1 k (by omega)).2]
    by_cases y : M 4 i k = z
    · rw [if_pos ⟨by omega, y⟩, if_pos ⟨by omega, y⟩]
    · rw [if_neg (fun w => y w.2), if_neg (fun w => y w.2)]
  have e2 : sm (fun k => if (k : Int) < M' 2 i 8 ∧ M' 4 i k = z then 1 else 0) (0 + s) (r + 1) = (if x = z then 1 else 0) + sm (fun k => if (k : Int) < M 2 i 8 ∧ M 4 i k = z then 1 else 0) (0 + s) r := by
    show (if ((0 + s : Nat) : Int) < M' 2 i 8 ∧ M' 4 i (0 + s) = z then (1 : Int) else 0) + sm _ (0 + s + 1) r = _
    rw [sm_shift, Nat.zero_add, c2, c8]
    have e3 : sm (fun k => if ((k + 1 : Nat) : Int) < (e : Int) + 1 ∧ M' 4 i (k + 1) = z then (1 : Int) else 0) s r = sm (fun k => if (k : Int) < M 2 i 8 ∧ M 4 i k = z then 1 else 0) s r := sm_congr fun k k1 k2 => by
      rw [h8]
      by_cases y : k < e
      · rw [(c3 (k + 1) (by omega) (by omega)).2, Nat.add_sub_cancel]
        by_cases w : M 4 i k = z
        · rw [if_pos ⟨by omega, w⟩, if_pos ⟨by omega, w⟩]
        · rw [if_neg (fun v => w v.2), if_neg (fun v => w v.2)]
      · rw [if_neg (fun v => by omega), if_neg (fun v => by omega)]
    rw [e3]
    by_cases w : x = z
    · rw [if_pos ⟨by omega, w⟩, if_pos w]
    · rw [if_neg (fun v => w v.2), if_neg w]
  have e4 : (if ((0 + s + r : Nat) : Int) < M 2 i 8 ∧ M 4 i (0 + s + r) = z then (1 : Int) else 0) = 0 := if_neg (fun w => by omega)
  rw [e1, e2, e4]
  omega
theorem TakC.occE {M M' : Mm} {i q e : Nat} (h : TakC M M' i q e) (he : e ≤ 12) (hq : q < e) (h8 : M 2 i 8 = e) (z : Int) : occ M' i z = occ M i z - if M 4 i q = z then 1 else 0 := by
  obtain ⟨c8, c1, c3⟩ := h
  obtain ⟨r, hr⟩ : ∃ r, 11 = q + r := ⟨11 - q, by omega⟩
  have eA : occ M' i z = sm (fun k => if (k : Int) < M' 2 i 8 ∧ M' 4 i k = z then 1 else 0) 0 (q + (r + 1)) := by rw [show q + (r + 1) = 12 by omega]; rfl
  have eB : occ M i z = sm (fun k => if (k : Int) < M 2 i 8 ∧ M 4 i k = z then 1 else 0) 0 (q + (r + 1)) := by rw [show q + (r + 1) = 12 by omega]; rfl
  rw [eA, eB, sm_split (f := fun k => if (k : Int) < M' 2 i 8 ∧ M' 4 i k = z then 1 else 0) (k := 0) (a := q) (b := r + 1), sm_split (f := fun k => if (k : Int) < M 2 i 8 ∧ M 4 i k = z then 1 else 0) (k := 0) (a := q) (b := r + 1), sm_snoc (f := fun k => if (k : Int) < M' 2 i 8 ∧ M' 4 i k = z then 1 else 0) (k := 0 + q)]
  have e1 : sm (fun k => if (k : Int) < M' 2 i 8 ∧ M' 4 i k = z then 1 else 0) 0 q = sm (fun k => if (k : Int) < M 2 i 8 ∧ M 4 i k = z then 1 else 0) 0 q := sm_congr fun k _ hk => by
    rw [c8, h8, (c1 k (by omega)).2]
    by_cases y : M 4 i k = z
    · rw [if_pos ⟨by omega, y⟩, if_pos ⟨by omega, y⟩]
    · rw [if_neg (fun w => y w.2), if_neg (fun w => y w.2)]
  have e2 : sm (fun k => if (k : Int) < M 2 i 8 ∧ M 4 i k = z then 1 else 0) (0 + q) (r + 1) = (if M 4 i q = z then 1 else 0) + sm (fun k => if (k : Int) < M' 2 i 8 ∧ M' 4 i k = z then 1 else 0) (0 + q) r := by
    show (if ((0 + q : Nat) : Int) < M 2 i 8 ∧ M 4 i (0 + q) = z then (1 : Int) else 0) + sm _ (0 + q + 1) r = _
    rw [sm_shift, Nat.zero_add, h8]
    have e3 : sm (fun k => if ((k + 1 : Nat) : Int) < (e : Int) ∧ M 4 i (k + 1) = z then (1 : Int) else 0) q r = sm (fun k => if (k : Int) < M' 2 i 8 ∧ M' 4 i k = z then 1 else 0) q r := sm_congr fun k k1 k2 => by
      rw [c8]
      by_cases y : k + 1 < e
      · rw [(c3 k (by omega) y).2]
        by_cases w : M 4 i (k + 1) = z
        · rw [if_pos ⟨by omega, w⟩, if_pos ⟨by omega, w⟩]
        · rw [if_neg (fun v => w v.2), if_neg (fun v => w v.2)]
      · rw [if_neg (fun v => by omega), if_neg (fun v => by omega)]
    rw [e3]
    by_cases w : M 4 i q = z
    · rw [if_pos ⟨by omega, w⟩, if_pos w]
    · rw [if_neg (fun v => w v.2), if_neg w]
  have e4 : (if ((0 + q + r : Nat) : Int) < M' 2 i 8 ∧ M' 4 i (0 + q + r) = z then (1 : Int) else 0) = 0 := if_neg (fun w => by omega)
  rw [e1, e2, e4]
  omega
theorem lnk_upd {M M' : Mm} {o f : Nat} {x : Int} (hf : f < 32) (h : ∀ n, n < 32 → n ≠ f → occ M' (33 * o + n) x = occ M (33 * o + n) x) : lnk M' o x = lnk M o x - occ M (33 * o + f) x + occ M' (33 * o + f) x :=
  sm_upd (f := fun n => occ M (33 * o + n) x) (g := fun n => occ M' (33 * o + n) x) (a := f) (k := 0) (j := 32) (by omega) (by omega) (fun n _ hn hnf => h n (by omega) hnf)
theorem occ_nn {M : Mm} {i : Nat} {x : Int} : 0 ≤ occ M i x := sm_nn fun k _ _ => by
  show (0 : Int) ≤ if (k : Int) < M 2 i 8 ∧ M 4 i k = x then 1 else 0
  split <;> decide
theorem occ_pos {M : Mm} {i k : Nat} (h12 : M 2 i 8 ≤ 12) (hk : (k : Int) < M 2 i 8) : 1 ≤ occ M i (M 4 i k) := by
  have h := sm_ge (f := fun j => if (j : Int) < M 2 i 8 ∧ M 4 i j = M 4 i k then 1 else 0) (a := k) (k := 0) (j := 12) (fun j _ _ => by
    show (0 : Int) ≤ if (j : Int) < M 2 i 8 ∧ M 4 i j = M 4 i k then 1 else 0
    split <;> decide) (by omega) (by omega)
  have e : (if (k : Int) < M 2 i 8 ∧ M 4 i k = M 4 i k then (1 : Int) else 0) = 1 := if_pos ⟨hk, rfl⟩
  rw [e] at h
  exact h
theorem occ_pos2 {M : Mm} {i k j : Nat} {x : Int} (h12 : M 2 i 8 ≤ 12) (hk : (k : Int) < M 2 i 8) (hj : (j : Int) < M 2 i 8) (hkj : k ≠ j) (h1 : M 4 i k = x) (h2 : M 4 i j = x) : 2 ≤ occ M i x := by
  have h := sm_ge2 (f := fun r => if (r : Int) < M 2 i 8 ∧ M 4 i r = x then 1 else 0) (a := k) (c := j) (k := 0) (j := 12) (fun j _ _ => by
    show (0 : Int) ≤ if (j : Int) < M 2 i 8 ∧ M 4 i j = x then 1 else 0
    split <;> decide) (by omega) (by omega) (by omega) (by omega) hkj
  have e1 : (if (k : Int) < M 2 i 8 ∧ M 4 i k = x then (1 : Int) else 0) = 1 := if_pos ⟨hk, h1⟩
  have e2 : (if (j : Int) < M 2 i 8 ∧ M 4 i j = x then (1 : Int) else 0) = 1 := if_pos ⟨hj, h2⟩
  rw [e1, e2] at h
  exact h
theorem lnk_pos {M : Mm} {o f k : Nat} (he : Er M o) (hf : f < 32) (hk : (k : Int) < M 2 (33 * o + f) 8) : 1 ≤ lnk M o (M 4 (33 * o + f) k) :=
  Int.le_trans (occ_pos (he f hf).2 hk) (sm_ge (f := fun n => occ M (33 * o + n) (M 4 (33 * o + f) k)) (a := f) (k := 0) (j := 32) (fun _ _ _ => occ_nn) (by omega) (by omega))
/-- two places of the tree in which one node stands -/
theorem lnk_pos2 {M : Mm} {o f k g j : Nat} {x : Int} (he : Er M o) (hf : f < 32) (hg : g < 32) (hk : (k : Int) < M 2 (33 * o + f) 8) (hj : (j : Int) < M 2 (33 * o + g) 8) (h1 : M 4 (33 * o + f) k = x) (h2 : M 4 (33 * o + g) j = x) (hne : ¬ (f = g ∧ k = j)) : 2 ≤ lnk M o x := by
  by_cases z : f = g
  · subst z
    exact Int.le_trans (occ_pos2 (he f hf).2 hk hj (fun y => hne ⟨rfl, y⟩) h1 h2) (sm_ge (f := fun n => occ M (33 * o + n) x) (a := f) (k := 0) (j := 32) (fun _ _ _ => occ_nn) (by omega) (by omega))
  · have h := sm_ge2 (f := fun n => occ M (33 * o + n) x) (a := f) (c := g) (k := 0) (j := 32) (fun _ _ _ => occ_nn) (by omega) (by omega) (by omega) (by omega) z
    have a := occ_pos (he f hf).2 hk
    have b := occ_pos (he g hg).2 hj
    rw [h1] at a
    rw [h2] at b
    have e : lnk M o x = sm (fun n => occ M (33 * o + n) x) 0 32 := rfl
    omega
theorem lnk_ex {M : Mm} {o : Nat} {x : Int} (he : Er M o) (h : lnk M o x ≠ 0) : ∃ f k : Nat, f < 32 ∧ (k : Int) < M 2 (33 * o + f) 8 ∧ M 4 (33 * o + f) k = x := by
  obtain ⟨f, -, hf, h1⟩ := sm_ex h
  obtain ⟨k, -, hk, h2⟩ := sm_ex h1
  refine ⟨f, k, by omega, ?_⟩
  by_cases z : (k : Int) < M 2 (33 * o + f) 8 ∧ M 4 (33 * o + f) k = x
  · exact z
  · exact absurd (if_neg z) h2
/-! names rise, and so none is twice -/
theorem Ents.lt {M : Mm} {i : Nat} (h : Ents M i) : ∀ (d k : Nat), ((k + d + 1 : Nat) : Int) < M 2 i 8 → M 3 i k < M 3 i (k + d + 1)
  | 0, k, hk => h.2.2 k (by omega)
  | d + 1, k, hk => Int.lt_trans (Ents.lt h d k (by omega)) (h.2.2 (k + d + 1) (by omega))
theorem Ents.inj {M : Mm} {i k j : Nat} (h : Ents M i) (hk : (k : Int) < M 2 i 8) (hj : (j : Int) < M 2 i 8) (e : M 3 i k = M 3 i j) : k = j := by
  rcases Nat.lt_trichotomy k j with q | q | q
  · have := h.lt (j - k - 1) k (by omega)
    rw [show k + (j - k - 1) + 1 = j by omega] at this
    omega
  · exact q
  · have := h.lt (k - j - 1) j (by omega)
    rw [show j + (k - j - 1) + 1 = k by omega] at this
    omega
/-- what stands in the cell behind an insert -/
theorem InsC.old {M M' : Mm} {i s e : Nat} {a x : Int} (h : InsC M M' i s a x e) {k : Nat} (hk : (k : Int) < M' 2 i 8) : (M' 3 i k = a ∧ M' 4 i k = x) ∨ ∃ j : Nat, j < e ∧ M' 3 i k = M 3 i j ∧ M' 4 i k = M 4 i j := by
  obtain ⟨c8, c1, c2, c3, -, -, hs⟩ := h
  rcases Nat.lt_trichotomy k s with q | q | q
  · exact Or.inr ⟨k, by omega, c1 k q⟩
  · rw [q]
    exact Or.inl c2
  · exact Or.inr ⟨k - 1, by omega, c3 k q (by omega)⟩
theorem InsC.ents {M M' : Mm} {i s e : Nat} {a x : Int} (h : InsC M M' i s a x e) (g : Ents M i) (he : e < 12) (h8 : M 2 i 8 = e) (ha : 1 ≤ a ∧ a ≤ 99) (hx : 1 ≤ x ∧ x ≤ 31) (hn : ∀ q : Nat, (q : Int) < M 2 i 8 → M 3 i q ≠ a) : Ents M' i := by
  refine ⟨by rw [h.1]; omega, fun k hk => ?_, fun k hk => ?_⟩
  · rcases h.old hk with ⟨e1, e2⟩ | ⟨j, j1, e1, e2⟩
    · rw [e1, e2]
      omega
    · rw [e1, e2]
      exact g.2.1 j (by omega)
  · obtain ⟨c8, c1, ⟨c2, -⟩, c3, l1, l2, hs⟩ := h
    rcases (show k + 1 < s ∨ k + 1 = s ∨ k = s ∨ s < k by omega) with q | q | q | q
    · rw [(c1 k (by omega)).1, (c1 (k + 1) q).1]
      exact g.2.2 k (by omega)
    · rw [(c1 k (by omega)).1, q, c2]
      have y := l1 (by omega)
      have z := hn (s - 1) (by omega)
      rw [show s - 1 = k by omega] at y z
      omega
    · rw [q, c2, (c3 (s + 1) (by omega) (by omega)).1, Nat.add_sub_cancel]
      exact l2 (by omega)
    · rw [(c3 k q (by omega)).1, (c3 (k + 1) (by omega) (by omega)).1, Nat.add_sub_cancel]
      have y := g.2.2 (k - 1) (by omega)
      rw [show k - 1 + 1 = k by omega] at y
      exact y
theorem TakC.old {M M' : Mm} {i q e : Nat} (h : TakC M M' i q e) {k : Nat} (hk : (k : Int) < M' 2 i 8) : ∃ j : Nat, j < e ∧ j ≠ q ∧ M' 3 i k = M 3 i j ∧ M' 4 i k = M 4 i j := by
  obtain ⟨c8, c1, c3⟩ := h
  by_cases y : k < q
  · exact ⟨k, by omega, by omega, c1 k y⟩
  · exact ⟨k + 1, by omega, by omega, c3 k (by omega) (by omega)⟩
theorem TakC.ents {M M' : Mm} {i q e : Nat} (h : TakC M M' i q e) (g : Ents M i) (hq : q < e) (h8 : M 2 i 8 = e) : Ents M' i := by
  have he := g.1
  refine ⟨by rw [h.1]; omega, fun k hk => ?_, fun k hk => ?_⟩
  · obtain ⟨j, j1, j2, e1, e2⟩ := h.old hk
    rw [e1, e2]
    exact g.2.1 j (by omega)
  · obtain ⟨c8, c1, c3⟩ := h
    rcases (show k + 1 < q ∨ k + 1 = q ∨ q ≤ k by omega) with y | y | y
    · rw [(c1 k (by omega)).1, (c1 (k + 1) y).1]
      exact g.2.2 k (by omega)
    · rw [(c1 k (by omega)).1, (c3 (k + 1) (by omega) (by omega)).1]
      have z := g.lt 1 k (by omega)
      exact z
    · rw [(c3 k y (by omega)).1, (c3 (k + 1) (by omega) (by omega)).1]
      exact g.2.2 (k + 1) (by omega)
